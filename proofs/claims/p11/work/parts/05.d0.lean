theorem dX0_hasBoth_11 : decode cX0_hasBoth 11 = .ok (.aload_n 0, 1) := dec_0 oX0_hasBoth (of42 _) rfl
theorem dX0_hasBoth_12 : decode cX0_hasBoth 12 = .ok (.getfield 18, 3) := dec_2 oX0_hasBoth (of180 _) 0 18 rfl rfl
theorem dX0_hasBoth_15 : decode cX0_hasBoth 15 = .ok (.iload_n 2, 1) := dec_0 oX0_hasBoth (of28 _) rfl
theorem dX0_hasBoth_16 : decode cX0_hasBoth 16 = .ok (.aload_n 0, 1) := dec_0 oX0_hasBoth (of42 _) rfl
theorem dX0_hasBoth_17 : decode cX0_hasBoth 17 = .ok (.getfield 22, 3) := dec_2 oX0_hasBoth (of180 _) 0 22 rfl rfl
theorem dX0_hasBoth_20 : decode cX0_hasBoth 20 = .ok (.iload_n 1, 1) := dec_0 oX0_hasBoth (of27 _) rfl
theorem dX0_hasBoth_21 : decode cX0_hasBoth 21 = .ok (.invokevirtual 36, 3) := dec_2 oX0_hasBoth (of182 _) 0 36 rfl rfl
theorem dX0_hasBoth_24 : decode cX0_hasBoth 24 = .ok (.invokevirtual 40, 3) := dec_2 oX0_hasBoth (of182 _) 0 40 rfl rfl
theorem dX0_hasBoth_27 : decode cX0_hasBoth 27 = .ok (.ifCond .eq 7, 3) := dec_s2 oX0_hasBoth (of153 _) 0 7 rfl (sg16p rfl) rfl
theorem dX0_hasBoth_30 : decode cX0_hasBoth 30 = .ok (.iconst 1, 1) := dec_0 oX0_hasBoth (of4 _) rfl
theorem dX0_hasBoth_31 : decode cX0_hasBoth 31 = .ok (.goto 4, 3) := dec_s2 oX0_hasBoth (of167 _) 0 4 rfl (sg16p rfl) rfl
theorem dX0_openBoth_11 : decode cX0_openBoth 11 = .ok (.aload_n 0, 1) := dec_0 oX0_openBoth (of42 _) rfl
theorem dX0_openBoth_12 : decode cX0_openBoth 12 = .ok (.iload_n 1, 1) := dec_0 oX0_openBoth (of27 _) rfl
theorem dX0_openBoth_13 : decode cX0_openBoth 13 = .ok (.aload_n 0, 1) := dec_0 oX0_openBoth (of42 _) rfl
theorem dX0_openBoth_14 : decode cX0_openBoth 14 = .ok (.getfield 26, 3) := dec_2 oX0_openBoth (of180 _) 0 26 rfl rfl
theorem dX0_openBoth_17 : decode cX0_openBoth 17 = .ok (.iconst 0, 1) := dec_0 oX0_openBoth (of3 _) rfl
theorem dX0_openBoth_18 : decode cX0_openBoth 18 = .ok (.invokevirtual 49, 3) := dec_2 oX0_openBoth (of182 _) 0 49 rfl rfl
theorem dX0_openBoth_21 : decode cX0_openBoth 21 = .ok (.invokevirtual 54, 3) := dec_2 oX0_openBoth (of182 _) 0 54 rfl rfl
theorem dX0_openBoth_24 : decode cX0_openBoth 24 = .ok (.aload_n 0, 1) := dec_0 oX0_openBoth (of42 _) rfl
theorem dX0_openBoth_25 : decode cX0_openBoth 25 = .ok (.iload_n 2, 1) := dec_0 oX0_openBoth (of28 _) rfl
theorem dX0_openBoth_26 : decode cX0_openBoth 26 = .ok (.invokevirtual 58, 3) := dec_2 oX0_openBoth (of182 _) 0 58 rfl rfl
theorem dX0_openBoth_29 : decode cX0_openBoth 29 = .ok (.iconst 1, 1) := dec_0 oX0_openBoth (of4 _) rfl
theorem dX0_openBoth_30 : decode cX0_openBoth 30 = .ok (.ireturn, 1) := dec_0 oX0_openBoth (of172 _) rfl
theorem dX0_openQuery_0 : decode cX0_openQuery 0 = .ok (.aload_n 0, 1) := dec_0 oX0_openQuery (of42 _) rfl
theorem dX0_openQuery_1 : decode cX0_openQuery 1 = .ok (.aload_n 0, 1) := dec_0 oX0_openQuery (of42 _) rfl
theorem dX0_openQuery_2 : decode cX0_openQuery 2 = .ok (.getfield 22, 3) := dec_2 oX0_openQuery (of180 _) 0 22 rfl rfl
theorem dX0_openQuery_5 : decode cX0_openQuery 5 = .ok (.iload_n 1, 1) := dec_0 oX0_openQuery (of27 _) rfl
theorem dX0_openQuery_6 : decode cX0_openQuery 6 = .ok (.invokevirtual 36, 3) := dec_2 oX0_openQuery (of182 _) 0 36 rfl rfl
theorem dX0_openQuery_9 : decode cX0_openQuery 9 = .ok (.iload_n 2, 1) := dec_0 oX0_openQuery (of28 _) rfl
theorem dX0_openQuery_10 : decode cX0_openQuery 10 = .ok (.invokevirtual 62, 3) := dec_2 oX0_openQuery (of182 _) 0 62 rfl rfl
theorem dX0_openQuery_13 : decode cX0_openQuery 13 = .ok (.aload_n 0, 1) := dec_0 oX0_openQuery (of42 _) rfl
theorem dX0_openQuery_14 : decode cX0_openQuery 14 = .ok (.getfield 22, 3) := dec_2 oX0_openQuery (of180 _) 0 22 rfl rfl
theorem dX0_openQuery_17 : decode cX0_openQuery 17 = .ok (.iload_n 1, 1) := dec_0 oX0_openQuery (of27 _) rfl
theorem dX0_openQuery_18 : decode cX0_openQuery 18 = .ok (.aload_n 0, 1) := dec_0 oX0_openQuery (of42 _) rfl
theorem dX0_openQuery_19 : decode cX0_openQuery 19 = .ok (.getfield 12, 3) := dec_2 oX0_openQuery (of180 _) 0 12 rfl rfl
theorem dX0_openQuery_22 : decode cX0_openQuery 22 = .ok (.getfield 65, 3) := dec_2 oX0_openQuery (of180 _) 0 65 rfl rfl
theorem dX0_openQuery_25 : decode cX0_openQuery 25 = .ok (.invokevirtual 69, 3) := dec_2 oX0_openQuery (of182 _) 0 69 rfl rfl
theorem dX0_openQuery_28 : decode cX0_openQuery 28 = .ok (.aload_n 0, 1) := dec_0 oX0_openQuery (of42 _) rfl
theorem dX0_openQuery_29 : decode cX0_openQuery 29 = .ok (.getfield 12, 3) := dec_2 oX0_openQuery (of180 _) 0 12 rfl rfl
theorem dX0_openQuery_32 : decode cX0_openQuery 32 = .ok (.aload_n 0, 1) := dec_0 oX0_openQuery (of42 _) rfl
theorem dX0_openQuery_33 : decode cX0_openQuery 33 = .ok (.getfield 12, 3) := dec_2 oX0_openQuery (of180 _) 0 12 rfl rfl
theorem dX0_openQuery_36 : decode cX0_openQuery 36 = .ok (.getfield 65, 3) := dec_2 oX0_openQuery (of180 _) 0 65 rfl rfl
theorem dX0_openQuery_39 : decode cX0_openQuery 39 = .ok (.aload_n 0, 1) := dec_0 oX0_openQuery (of42 _) rfl
theorem dX0_openQuery_40 : decode cX0_openQuery 40 = .ok (.getfield 26, 3) := dec_2 oX0_openQuery (of180 _) 0 26 rfl rfl
theorem dX0_openQuery_43 : decode cX0_openQuery 43 = .ok (.iconst 1, 1) := dec_0 oX0_openQuery (of4 _) rfl
theorem dX0_openQuery_44 : decode cX0_openQuery 44 = .ok (.invokevirtual 49, 3) := dec_2 oX0_openQuery (of182 _) 0 49 rfl rfl
theorem dX0_openQuery_47 : decode cX0_openQuery 47 = .ok (.invokevirtual 73, 3) := dec_2 oX0_openQuery (of182 _) 0 73 rfl rfl
theorem dX0_openQuery_50 : decode cX0_openQuery 50 = .ok (.return_, 1) := dec_0 oX0_openQuery (of177 _) rfl
theorem dX0_openWindow_0 : decode cX0_openWindow 0 = .ok (.aload_n 0, 1) := dec_0 oX0_openWindow (of42 _) rfl
theorem dX0_openWindow_1 : decode cX0_openWindow 1 = .ok (.iload_n 2, 1) := dec_0 oX0_openWindow (of28 _) rfl
theorem dX0_openWindow_2 : decode cX0_openWindow 2 = .ok (.aload_n 0, 1) := dec_0 oX0_openWindow (of42 _) rfl
theorem dX0_openWindow_3 : decode cX0_openWindow 3 = .ok (.getfield 26, 3) := dec_2 oX0_openWindow (of180 _) 0 26 rfl rfl
theorem dX0_openWindow_6 : decode cX0_openWindow 6 = .ok (.iconst 0, 1) := dec_0 oX0_openWindow (of3 _) rfl
theorem dX0_openWindow_7 : decode cX0_openWindow 7 = .ok (.invokevirtual 49, 3) := dec_2 oX0_openWindow (of182 _) 0 49 rfl rfl
theorem dX0_openWindow_10 : decode cX0_openWindow 10 = .ok (.invokevirtual 62, 3) := dec_2 oX0_openWindow (of182 _) 0 62 rfl rfl
theorem dX0_openWindow_13 : decode cX0_openWindow 13 = .ok (.aload_n 0, 1) := dec_0 oX0_openWindow (of42 _) rfl
theorem dX0_openWindow_14 : decode cX0_openWindow 14 = .ok (.getfield 18, 3) := dec_2 oX0_openWindow (of180 _) 0 18 rfl rfl
theorem dX0_openWindow_17 : decode cX0_openWindow 17 = .ok (.iload_n 1, 1) := dec_0 oX0_openWindow (of27 _) rfl
theorem dX0_openWindow_18 : decode cX0_openWindow 18 = .ok (.aload_n 0, 1) := dec_0 oX0_openWindow (of42 _) rfl
theorem dX0_openWindow_19 : decode cX0_openWindow 19 = .ok (.getfield 77, 3) := dec_2 oX0_openWindow (of180 _) 0 77 rfl rfl
theorem dX0_openWindow_22 : decode cX0_openWindow 22 = .ok (.aload_n 0, 1) := dec_0 oX0_openWindow (of42 _) rfl
theorem dX0_openWindow_23 : decode cX0_openWindow 23 = .ok (.getfield 12, 3) := dec_2 oX0_openWindow (of180 _) 0 12 rfl rfl
theorem dX0_openWindow_26 : decode cX0_openWindow 26 = .ok (.getfield 65, 3) := dec_2 oX0_openWindow (of180 _) 0 65 rfl rfl
theorem dX0_openWindow_29 : decode cX0_openWindow 29 = .ok (.invokevirtual 81, 3) := dec_2 oX0_openWindow (of182 _) 0 81 rfl rfl
theorem dX0_openWindow_32 : decode cX0_openWindow 32 = .ok (.aload_n 0, 1) := dec_0 oX0_openWindow (of42 _) rfl
theorem dX0_openWindow_33 : decode cX0_openWindow 33 = .ok (.getfield 12, 3) := dec_2 oX0_openWindow (of180 _) 0 12 rfl rfl
theorem dX0_openWindow_36 : decode cX0_openWindow 36 = .ok (.aload_n 0, 1) := dec_0 oX0_openWindow (of42 _) rfl
theorem dX0_openWindow_37 : decode cX0_openWindow 37 = .ok (.getfield 12, 3) := dec_2 oX0_openWindow (of180 _) 0 12 rfl rfl
theorem dX0_openWindow_40 : decode cX0_openWindow 40 = .ok (.getfield 65, 3) := dec_2 oX0_openWindow (of180 _) 0 65 rfl rfl
theorem dX0_openWindow_43 : decode cX0_openWindow 43 = .ok (.aload_n 0, 1) := dec_0 oX0_openWindow (of42 _) rfl
theorem dX0_openWindow_44 : decode cX0_openWindow 44 = .ok (.getfield 26, 3) := dec_2 oX0_openWindow (of180 _) 0 26 rfl rfl
theorem dX0_openWindow_47 : decode cX0_openWindow 47 = .ok (.iconst 1, 1) := dec_0 oX0_openWindow (of4 _) rfl
theorem dX0_openWindow_48 : decode cX0_openWindow 48 = .ok (.invokevirtual 49, 3) := dec_2 oX0_openWindow (of182 _) 0 49 rfl rfl
theorem dX0_openWindow_51 : decode cX0_openWindow 51 = .ok (.invokevirtual 73, 3) := dec_2 oX0_openWindow (of182 _) 0 73 rfl rfl
theorem dX0_openWindow_54 : decode cX0_openWindow 54 = .ok (.return_, 1) := dec_0 oX0_openWindow (of177 _) rfl
theorem dX0_begin_0 : decode cX0_begin 0 = .ok (.aload_n 0, 1) := dec_0 oX0_begin (of42 _) rfl
theorem dX0_begin_1 : decode cX0_begin 1 = .ok (.iload_n 1, 1) := dec_0 oX0_begin (of27 _) rfl
theorem dX0_begin_2 : decode cX0_begin 2 = .ok (.putfield 77, 3) := dec_2 oX0_begin (of181 _) 0 77 rfl rfl
theorem dX0_begin_5 : decode cX0_begin 5 = .ok (.aload_n 0, 1) := dec_0 oX0_begin (of42 _) rfl
theorem dX0_begin_6 : decode cX0_begin 6 = .ok (.getfield 12, 3) := dec_2 oX0_begin (of180 _) 0 12 rfl rfl
theorem dX0_begin_9 : decode cX0_begin 9 = .ok (.iload_n 1, 1) := dec_0 oX0_begin (of27 _) rfl
theorem dX0_begin_10 : decode cX0_begin 10 = .ok (.iload_n 2, 1) := dec_0 oX0_begin (of28 _) rfl
theorem dX0_begin_11 : decode cX0_begin 11 = .ok (.aload_n 0, 1) := dec_0 oX0_begin (of42 _) rfl
theorem dX0_begin_12 : decode cX0_begin 12 = .ok (.getfield 26, 3) := dec_2 oX0_begin (of180 _) 0 26 rfl rfl
theorem dX0_begin_15 : decode cX0_begin 15 = .ok (.iconst 2, 1) := dec_0 oX0_begin (of5 _) rfl
theorem dX0_begin_16 : decode cX0_begin 16 = .ok (.invokevirtual 49, 3) := dec_2 oX0_begin (of182 _) 0 49 rfl rfl
theorem dX0_begin_19 : decode cX0_begin 19 = .ok (.invokevirtual 85, 3) := dec_2 oX0_begin (of182 _) 0 85 rfl rfl
theorem dX0_begin_22 : decode cX0_begin 22 = .ok (.return_, 1) := dec_0 oX0_begin (of177 _) rfl
theorem dX0_laySecondWindow_0 : decode cX0_laySecondWindow 0 = .ok (.aload_n 0, 1) := dec_0 oX0_laySecondWindow (of42 _) rfl
theorem dX0_laySecondWindow_1 : decode cX0_laySecondWindow 1 = .ok (.getfield 18, 3) := dec_2 oX0_laySecondWindow (of180 _) 0 18 rfl rfl
theorem dX0_laySecondWindow_4 : decode cX0_laySecondWindow 4 = .ok (.iload_n 1, 1) := dec_0 oX0_laySecondWindow (of27 _) rfl
theorem dX0_laySecondWindow_5 : decode cX0_laySecondWindow 5 = .ok (.aload_n 0, 1) := dec_0 oX0_laySecondWindow (of42 _) rfl
theorem dX0_laySecondWindow_6 : decode cX0_laySecondWindow 6 = .ok (.getfield 77, 3) := dec_2 oX0_laySecondWindow (of180 _) 0 77 rfl rfl
theorem dX0_laySecondWindow_9 : decode cX0_laySecondWindow 9 = .ok (.aload_n 0, 1) := dec_0 oX0_laySecondWindow (of42 _) rfl
theorem dX0_laySecondWindow_10 : decode cX0_laySecondWindow 10 = .ok (.getfield 12, 3) := dec_2 oX0_laySecondWindow (of180 _) 0 12 rfl rfl
theorem dX0_laySecondWindow_13 : decode cX0_laySecondWindow 13 = .ok (.getfield 88, 3) := dec_2 oX0_laySecondWindow (of180 _) 0 88 rfl rfl
theorem dX0_laySecondWindow_16 : decode cX0_laySecondWindow 16 = .ok (.invokevirtual 81, 3) := dec_2 oX0_laySecondWindow (of182 _) 0 81 rfl rfl
theorem dX0_laySecondWindow_19 : decode cX0_laySecondWindow 19 = .ok (.aload_n 0, 1) := dec_0 oX0_laySecondWindow (of42 _) rfl
theorem dX0_laySecondWindow_20 : decode cX0_laySecondWindow 20 = .ok (.getfield 12, 3) := dec_2 oX0_laySecondWindow (of180 _) 0 12 rfl rfl
theorem dX0_laySecondWindow_23 : decode cX0_laySecondWindow 23 = .ok (.aload_n 0, 1) := dec_0 oX0_laySecondWindow (of42 _) rfl
theorem dX0_laySecondWindow_24 : decode cX0_laySecondWindow 24 = .ok (.getfield 12, 3) := dec_2 oX0_laySecondWindow (of180 _) 0 12 rfl rfl
theorem dX0_laySecondWindow_27 : decode cX0_laySecondWindow 27 = .ok (.getfield 88, 3) := dec_2 oX0_laySecondWindow (of180 _) 0 88 rfl rfl
theorem dX0_laySecondWindow_30 : decode cX0_laySecondWindow 30 = .ok (.aload_n 0, 1) := dec_0 oX0_laySecondWindow (of42 _) rfl
theorem dX0_laySecondWindow_31 : decode cX0_laySecondWindow 31 = .ok (.getfield 26, 3) := dec_2 oX0_laySecondWindow (of180 _) 0 26 rfl rfl
theorem dX0_laySecondWindow_34 : decode cX0_laySecondWindow 34 = .ok (.iconst 1, 1) := dec_0 oX0_laySecondWindow (of4 _) rfl
theorem dX0_laySecondWindow_35 : decode cX0_laySecondWindow 35 = .ok (.invokevirtual 49, 3) := dec_2 oX0_laySecondWindow (of182 _) 0 49 rfl rfl
theorem dX0_laySecondWindow_38 : decode cX0_laySecondWindow 38 = .ok (.invokevirtual 73, 3) := dec_2 oX0_laySecondWindow (of182 _) 0 73 rfl rfl
theorem dX0_laySecondWindow_41 : decode cX0_laySecondWindow 41 = .ok (.return_, 1) := dec_0 oX0_laySecondWindow (of177 _) rfl
theorem dX0_laySecondQuery_0 : decode cX0_laySecondQuery 0 = .ok (.aload_n 0, 1) := dec_0 oX0_laySecondQuery (of42 _) rfl
theorem dX0_laySecondQuery_1 : decode cX0_laySecondQuery 1 = .ok (.getfield 22, 3) := dec_2 oX0_laySecondQuery (of180 _) 0 22 rfl rfl
theorem dX0_laySecondQuery_4 : decode cX0_laySecondQuery 4 = .ok (.iload_n 1, 1) := dec_0 oX0_laySecondQuery (of27 _) rfl
theorem dX0_laySecondQuery_5 : decode cX0_laySecondQuery 5 = .ok (.aload_n 0, 1) := dec_0 oX0_laySecondQuery (of42 _) rfl
theorem dX0_laySecondQuery_6 : decode cX0_laySecondQuery 6 = .ok (.getfield 12, 3) := dec_2 oX0_laySecondQuery (of180 _) 0 12 rfl rfl
theorem dX0_laySecondQuery_9 : decode cX0_laySecondQuery 9 = .ok (.getfield 88, 3) := dec_2 oX0_laySecondQuery (of180 _) 0 88 rfl rfl
theorem dX0_laySecondQuery_12 : decode cX0_laySecondQuery 12 = .ok (.invokevirtual 69, 3) := dec_2 oX0_laySecondQuery (of182 _) 0 69 rfl rfl
theorem dX0_laySecondQuery_15 : decode cX0_laySecondQuery 15 = .ok (.aload_n 0, 1) := dec_0 oX0_laySecondQuery (of42 _) rfl
theorem dX0_laySecondQuery_16 : decode cX0_laySecondQuery 16 = .ok (.getfield 12, 3) := dec_2 oX0_laySecondQuery (of180 _) 0 12 rfl rfl
theorem dX0_laySecondQuery_19 : decode cX0_laySecondQuery 19 = .ok (.aload_n 0, 1) := dec_0 oX0_laySecondQuery (of42 _) rfl
theorem dX0_laySecondQuery_20 : decode cX0_laySecondQuery 20 = .ok (.getfield 12, 3) := dec_2 oX0_laySecondQuery (of180 _) 0 12 rfl rfl
theorem dX0_laySecondQuery_23 : decode cX0_laySecondQuery 23 = .ok (.getfield 88, 3) := dec_2 oX0_laySecondQuery (of180 _) 0 88 rfl rfl
theorem dX0_laySecondQuery_26 : decode cX0_laySecondQuery 26 = .ok (.aload_n 0, 1) := dec_0 oX0_laySecondQuery (of42 _) rfl
theorem dX0_laySecondQuery_27 : decode cX0_laySecondQuery 27 = .ok (.getfield 26, 3) := dec_2 oX0_laySecondQuery (of180 _) 0 26 rfl rfl
theorem dX0_laySecondQuery_30 : decode cX0_laySecondQuery 30 = .ok (.iconst 1, 1) := dec_0 oX0_laySecondQuery (of4 _) rfl
theorem dX0_laySecondQuery_31 : decode cX0_laySecondQuery 31 = .ok (.invokevirtual 49, 3) := dec_2 oX0_laySecondQuery (of182 _) 0 49 rfl rfl
theorem dX0_laySecondQuery_34 : decode cX0_laySecondQuery 34 = .ok (.invokevirtual 73, 3) := dec_2 oX0_laySecondQuery (of182 _) 0 73 rfl rfl
theorem dX0_laySecondQuery_37 : decode cX0_laySecondQuery 37 = .ok (.return_, 1) := dec_0 oX0_laySecondQuery (of177 _) rfl
theorem dX1_runSearch_0 : decode cX1_runSearch 0 = .ok (.iconst 0, 1) := dec_0 oX1_runSearch (of3 _) rfl
theorem dX1_runSearch_1 : decode cX1_runSearch 1 = .ok (.istore_n 2, 1) := dec_0 oX1_runSearch (of61 _) rfl
theorem dX1_runSearch_2 : decode cX1_runSearch 2 = .ok (.iload_n 2, 1) := dec_0 oX1_runSearch (of28 _) rfl
theorem dX1_runSearch_3 : decode cX1_runSearch 3 = .ok (.bipush 9, 2) := dec_s1 oX1_runSearch (of16 _) 9 rfl (sg8p rfl) rfl
theorem dX1_runSearch_5 : decode cX1_runSearch 5 = .ok (.if_icmp .ge 16, 3) := dec_s2 oX1_runSearch (of162 _) 0 16 rfl (sg16p rfl) rfl
theorem dX1_runSearch_8 : decode cX1_runSearch 8 = .ok (.aload_n 0, 1) := dec_0 oX1_runSearch (of42 _) rfl
theorem dX1_runSearch_9 : decode cX1_runSearch 9 = .ok (.getfield 11, 3) := dec_2 oX1_runSearch (of180 _) 0 11 rfl rfl
theorem dX1_runSearch_12 : decode cX1_runSearch 12 = .ok (.iload_n 2, 1) := dec_0 oX1_runSearch (of28 _) rfl
theorem dX1_runSearch_13 : decode cX1_runSearch 13 = .ok (.iconst 0, 1) := dec_0 oX1_runSearch (of3 _) rfl
theorem dX1_runSearch_14 : decode cX1_runSearch 14 = .ok (.iastore, 1) := dec_0 oX1_runSearch (of79 _) rfl
theorem dX1_runSearch_15 : decode cX1_runSearch 15 = .ok (.iinc 2 1, 3) := dec_ii oX1_runSearch (of132 _) 2 1 rfl (sg8p rfl) rfl
theorem dX1_runSearch_18 : decode cX1_runSearch 18 = .ok (.goto (-16), 3) := dec_s2 oX1_runSearch (of167 _) 255 240 rfl (sg16n (k := 16) rfl) rfl
theorem dX1_runSearch_21 : decode cX1_runSearch 21 = .ok (.ldc 44, 2) := dec_1 oX1_runSearch (of18 _) 44 rfl rfl
theorem dX1_runSearch_23 : decode cX1_runSearch 23 = .ok (.istore_n 2, 1) := dec_0 oX1_runSearch (of61 _) rfl
theorem dX1_runSearch_24 : decode cX1_runSearch 24 = .ok (.aload_n 0, 1) := dec_0 oX1_runSearch (of42 _) rfl
theorem dX1_runSearch_25 : decode cX1_runSearch 25 = .ok (.getfield 28, 3) := dec_2 oX1_runSearch (of180 _) 0 28 rfl rfl
theorem dX1_runSearch_28 : decode cX1_runSearch 28 = .ok (.iload_n 1, 1) := dec_0 oX1_runSearch (of27 _) rfl
theorem dX1_runSearch_29 : decode cX1_runSearch 29 = .ok (.aload_n 0, 1) := dec_0 oX1_runSearch (of42 _) rfl
theorem dX1_runSearch_30 : decode cX1_runSearch 30 = .ok (.getfield 28, 3) := dec_2 oX1_runSearch (of180 _) 0 28 rfl rfl
theorem dX1_runSearch_33 : decode cX1_runSearch 33 = .ok (.getfield 45, 3) := dec_2 oX1_runSearch (of180 _) 0 45 rfl rfl
theorem dX1_runSearch_36 : decode cX1_runSearch 36 = .ok (.iconst 0, 1) := dec_0 oX1_runSearch (of3 _) rfl
theorem dX1_runSearch_37 : decode cX1_runSearch 37 = .ok (.invokevirtual 49, 3) := dec_2 oX1_runSearch (of182 _) 0 49 rfl rfl
theorem dX1_runSearch_40 : decode cX1_runSearch 40 = .ok (.invokevirtual 55, 3) := dec_2 oX1_runSearch (of182 _) 0 55 rfl rfl
theorem dX1_runSearch_43 : decode cX1_runSearch 43 = .ok (.iconst 0, 1) := dec_0 oX1_runSearch (of3 _) rfl
theorem dX1_runSearch_44 : decode cX1_runSearch 44 = .ok (.istore_n 3, 1) := dec_0 oX1_runSearch (of62 _) rfl
theorem dX1_runSearch_45 : decode cX1_runSearch 45 = .ok (.iload_n 3, 1) := dec_0 oX1_runSearch (of29 _) rfl
theorem dX1_runSearch_46 : decode cX1_runSearch 46 = .ok (.aload_n 0, 1) := dec_0 oX1_runSearch (of42 _) rfl
theorem dX1_runSearch_47 : decode cX1_runSearch 47 = .ok (.getfield 38, 3) := dec_2 oX1_runSearch (of180 _) 0 38 rfl rfl
theorem dX1_runSearch_50 : decode cX1_runSearch 50 = .ok (.getfield 59, 3) := dec_2 oX1_runSearch (of180 _) 0 59 rfl rfl
theorem dX1_runSearch_53 : decode cX1_runSearch 53 = .ok (.if_icmp .ge 71, 3) := dec_s2 oX1_runSearch (of162 _) 0 71 rfl (sg16p rfl) rfl
theorem dX1_runSearch_56 : decode cX1_runSearch 56 = .ok (.aload_n 0, 1) := dec_0 oX1_runSearch (of42 _) rfl
theorem dX1_runSearch_57 : decode cX1_runSearch 57 = .ok (.getfield 38, 3) := dec_2 oX1_runSearch (of180 _) 0 38 rfl rfl
theorem dX1_runSearch_60 : decode cX1_runSearch 60 = .ok (.iload_n 3, 1) := dec_0 oX1_runSearch (of29 _) rfl
theorem dX1_runSearch_61 : decode cX1_runSearch 61 = .ok (.aload_n 0, 1) := dec_0 oX1_runSearch (of42 _) rfl
theorem dX1_runSearch_62 : decode cX1_runSearch 62 = .ok (.getfield 43, 3) := dec_2 oX1_runSearch (of180 _) 0 43 rfl rfl
theorem dX1_runSearch_65 : decode cX1_runSearch 65 = .ok (.iload_n 1, 1) := dec_0 oX1_runSearch (of27 _) rfl
theorem dX1_runSearch_66 : decode cX1_runSearch 66 = .ok (.invokevirtual 65, 3) := dec_2 oX1_runSearch (of182 _) 0 65 rfl rfl
theorem dX1_runSearch_69 : decode cX1_runSearch 69 = .ok (.invokevirtual 70, 3) := dec_2 oX1_runSearch (of182 _) 0 70 rfl rfl
theorem dX1_runSearch_72 : decode cX1_runSearch 72 = .ok (.ifCond .eq 46, 3) := dec_s2 oX1_runSearch (of153 _) 0 46 rfl (sg16p rfl) rfl
theorem dX1_runSearch_75 : decode cX1_runSearch 75 = .ok (.aload_n 0, 1) := dec_0 oX1_runSearch (of42 _) rfl
theorem dX1_runSearch_76 : decode cX1_runSearch 76 = .ok (.getfield 28, 3) := dec_2 oX1_runSearch (of180 _) 0 28 rfl rfl
theorem dX1_runSearch_79 : decode cX1_runSearch 79 = .ok (.iload_n 3, 1) := dec_0 oX1_runSearch (of29 _) rfl
theorem dX1_runSearch_80 : decode cX1_runSearch 80 = .ok (.invokevirtual 74, 3) := dec_2 oX1_runSearch (of182 _) 0 74 rfl rfl
theorem dX1_runSearch_83 : decode cX1_runSearch 83 = .ok (.aload_n 0, 1) := dec_0 oX1_runSearch (of42 _) rfl
theorem dX1_runSearch_84 : decode cX1_runSearch 84 = .ok (.getfield 28, 3) := dec_2 oX1_runSearch (of180 _) 0 28 rfl rfl
theorem dX1_runSearch_87 : decode cX1_runSearch 87 = .ok (.getfield 78, 3) := dec_2 oX1_runSearch (of180 _) 0 78 rfl rfl
theorem dX1_runSearch_90 : decode cX1_runSearch 90 = .ok (.iload_n 2, 1) := dec_0 oX1_runSearch (of28 _) rfl
theorem dX1_runSearch_91 : decode cX1_runSearch 91 = .ok (.invokevirtual 82, 3) := dec_2 oX1_runSearch (of182 _) 0 82 rfl rfl
theorem dX1_runSearch_94 : decode cX1_runSearch 94 = .ok (.istore 4, 2) := dec_1 oX1_runSearch (of54 _) 4 rfl rfl
theorem dX1_runSearch_96 : decode cX1_runSearch 96 = .ok (.aload_n 0, 1) := dec_0 oX1_runSearch (of42 _) rfl
theorem dX1_runSearch_97 : decode cX1_runSearch 97 = .ok (.iload 4, 2) := dec_1 oX1_runSearch (of21 _) 4 rfl rfl
theorem dX1_runSearch_99 : decode cX1_runSearch 99 = .ok (.invokevirtual 87, 3) := dec_2 oX1_runSearch (of182 _) 0 87 rfl rfl
theorem dX1_runSearch_102 : decode cX1_runSearch 102 = .ok (.iload 4, 2) := dec_1 oX1_runSearch (of21 _) 4 rfl rfl
theorem dX1_runSearch_104 : decode cX1_runSearch 104 = .ok (.ifCond .ne 14, 3) := dec_s2 oX1_runSearch (of154 _) 0 14 rfl (sg16p rfl) rfl
theorem dX1_runSearch_107 : decode cX1_runSearch 107 = .ok (.aload_n 0, 1) := dec_0 oX1_runSearch (of42 _) rfl
theorem dX1_runSearch_108 : decode cX1_runSearch 108 = .ok (.getfield 28, 3) := dec_2 oX1_runSearch (of180 _) 0 28 rfl rfl
theorem dX1_runSearch_111 : decode cX1_runSearch 111 = .ok (.getfield 78, 3) := dec_2 oX1_runSearch (of180 _) 0 78 rfl rfl
theorem dX1_runSearch_114 : decode cX1_runSearch 114 = .ok (.invokevirtual 90, 3) := dec_2 oX1_runSearch (of182 _) 0 90 rfl rfl
theorem dX1_runSearch_117 : decode cX1_runSearch 117 = .ok (.istore_n 2, 1) := dec_0 oX1_runSearch (of61 _) rfl
theorem dX1_runSearch_118 : decode cX1_runSearch 118 = .ok (.iinc 3 1, 3) := dec_ii oX1_runSearch (of132 _) 3 1 rfl (sg8p rfl) rfl
theorem dX1_runSearch_121 : decode cX1_runSearch 121 = .ok (.goto (-76), 3) := dec_s2 oX1_runSearch (of167 _) 255 180 rfl (sg16n (k := 76) rfl) rfl
theorem dX1_runSearch_124 : decode cX1_runSearch 124 = .ok (.return_, 1) := dec_0 oX1_runSearch (of177 _) rfl
theorem dX1_addToTally_0 : decode cX1_addToTally 0 = .ok (.aload_n 0, 1) := dec_0 oX1_addToTally (of42 _) rfl
theorem dX1_addToTally_1 : decode cX1_addToTally 1 = .ok (.getfield 11, 3) := dec_2 oX1_addToTally (of180 _) 0 11 rfl rfl
theorem dX1_addToTally_4 : decode cX1_addToTally 4 = .ok (.iconst 0, 1) := dec_0 oX1_addToTally (of3 _) rfl
theorem dX1_addToTally_5 : decode cX1_addToTally 5 = .ok (.dup2, 1) := dec_0 oX1_addToTally (of92 _) rfl
theorem dX1_addToTally_6 : decode cX1_addToTally 6 = .ok (.iaload, 1) := dec_0 oX1_addToTally (of46 _) rfl
theorem dX1_addToTally_7 : decode cX1_addToTally 7 = .ok (.iconst 1, 1) := dec_0 oX1_addToTally (of4 _) rfl
theorem dX1_addToTally_8 : decode cX1_addToTally 8 = .ok (.iadd, 1) := dec_0 oX1_addToTally (of96 _) rfl
theorem dX1_addToTally_9 : decode cX1_addToTally 9 = .ok (.iastore, 1) := dec_0 oX1_addToTally (of79 _) rfl
theorem dX1_addToTally_10 : decode cX1_addToTally 10 = .ok (.aload_n 0, 1) := dec_0 oX1_addToTally (of42 _) rfl
theorem dX1_addToTally_11 : decode cX1_addToTally 11 = .ok (.getfield 11, 3) := dec_2 oX1_addToTally (of180 _) 0 11 rfl rfl
theorem dX1_addToTally_14 : decode cX1_addToTally 14 = .ok (.bipush 6, 2) := dec_s1 oX1_addToTally (of16 _) 6 rfl (sg8p rfl) rfl
theorem dX1_addToTally_16 : decode cX1_addToTally 16 = .ok (.dup2, 1) := dec_0 oX1_addToTally (of92 _) rfl
theorem dX1_addToTally_17 : decode cX1_addToTally 17 = .ok (.iaload, 1) := dec_0 oX1_addToTally (of46 _) rfl
theorem dX1_addToTally_18 : decode cX1_addToTally 18 = .ok (.aload_n 0, 1) := dec_0 oX1_addToTally (of42 _) rfl
theorem dX1_addToTally_19 : decode cX1_addToTally 19 = .ok (.getfield 28, 3) := dec_2 oX1_addToTally (of180 _) 0 28 rfl rfl
theorem dX1_addToTally_22 : decode cX1_addToTally 22 = .ok (.getfield 78, 3) := dec_2 oX1_addToTally (of180 _) 0 78 rfl rfl
theorem dX1_addToTally_25 : decode cX1_addToTally 25 = .ok (.getfield 94, 3) := dec_2 oX1_addToTally (of180 _) 0 94 rfl rfl
theorem dX1_addToTally_28 : decode cX1_addToTally 28 = .ok (.iadd, 1) := dec_0 oX1_addToTally (of96 _) rfl
theorem dX1_addToTally_29 : decode cX1_addToTally 29 = .ok (.iastore, 1) := dec_0 oX1_addToTally (of79 _) rfl
theorem dX1_addToTally_30 : decode cX1_addToTally 30 = .ok (.iload_n 1, 1) := dec_0 oX1_addToTally (of27 _) rfl
theorem dX1_addToTally_31 : decode cX1_addToTally 31 = .ok (.ifCond .ne 17, 3) := dec_s2 oX1_addToTally (of154 _) 0 17 rfl (sg16p rfl) rfl
theorem dX1_addToTally_34 : decode cX1_addToTally 34 = .ok (.aload_n 0, 1) := dec_0 oX1_addToTally (of42 _) rfl
theorem dX1_addToTally_35 : decode cX1_addToTally 35 = .ok (.getfield 11, 3) := dec_2 oX1_addToTally (of180 _) 0 11 rfl rfl
theorem dX1_addToTally_38 : decode cX1_addToTally 38 = .ok (.bipush 7, 2) := dec_s1 oX1_addToTally (of16 _) 7 rfl (sg8p rfl) rfl
theorem dX1_addToTally_40 : decode cX1_addToTally 40 = .ok (.dup2, 1) := dec_0 oX1_addToTally (of92 _) rfl
theorem dX1_addToTally_41 : decode cX1_addToTally 41 = .ok (.iaload, 1) := dec_0 oX1_addToTally (of46 _) rfl
theorem dX1_addToTally_42 : decode cX1_addToTally 42 = .ok (.iconst 1, 1) := dec_0 oX1_addToTally (of4 _) rfl
theorem dX1_addToTally_43 : decode cX1_addToTally 43 = .ok (.iadd, 1) := dec_0 oX1_addToTally (of96 _) rfl
theorem dX1_addToTally_44 : decode cX1_addToTally 44 = .ok (.iastore, 1) := dec_0 oX1_addToTally (of79 _) rfl
theorem dX1_addToTally_45 : decode cX1_addToTally 45 = .ok (.goto 23, 3) := dec_s2 oX1_addToTally (of167 _) 0 23 rfl (sg16p rfl) rfl
theorem dX1_addToTally_48 : decode cX1_addToTally 48 = .ok (.iload_n 1, 1) := dec_0 oX1_addToTally (of27 _) rfl
theorem dX1_addToTally_49 : decode cX1_addToTally 49 = .ok (.iconst 1, 1) := dec_0 oX1_addToTally (of4 _) rfl
theorem dX1_addToTally_50 : decode cX1_addToTally 50 = .ok (.if_icmp .lt 18, 3) := dec_s2 oX1_addToTally (of161 _) 0 18 rfl (sg16p rfl) rfl
theorem dX1_addToTally_53 : decode cX1_addToTally 53 = .ok (.iload_n 1, 1) := dec_0 oX1_addToTally (of27 _) rfl
theorem dX1_addToTally_54 : decode cX1_addToTally 54 = .ok (.iconst 5, 1) := dec_0 oX1_addToTally (of8 _) rfl
theorem dX1_addToTally_55 : decode cX1_addToTally 55 = .ok (.if_icmp .gt 13, 3) := dec_s2 oX1_addToTally (of163 _) 0 13 rfl (sg16p rfl) rfl
theorem dX1_addToTally_58 : decode cX1_addToTally 58 = .ok (.aload_n 0, 1) := dec_0 oX1_addToTally (of42 _) rfl
theorem dX1_addToTally_59 : decode cX1_addToTally 59 = .ok (.getfield 11, 3) := dec_2 oX1_addToTally (of180 _) 0 11 rfl rfl
theorem dX1_addToTally_62 : decode cX1_addToTally 62 = .ok (.iload_n 1, 1) := dec_0 oX1_addToTally (of27 _) rfl
theorem dX1_addToTally_63 : decode cX1_addToTally 63 = .ok (.dup2, 1) := dec_0 oX1_addToTally (of92 _) rfl
theorem dX1_addToTally_64 : decode cX1_addToTally 64 = .ok (.iaload, 1) := dec_0 oX1_addToTally (of46 _) rfl
theorem dX1_addToTally_65 : decode cX1_addToTally 65 = .ok (.iconst 1, 1) := dec_0 oX1_addToTally (of4 _) rfl
theorem dX1_addToTally_66 : decode cX1_addToTally 66 = .ok (.iadd, 1) := dec_0 oX1_addToTally (of96 _) rfl
theorem dX1_addToTally_67 : decode cX1_addToTally 67 = .ok (.iastore, 1) := dec_0 oX1_addToTally (of79 _) rfl
theorem dX1_addToTally_68 : decode cX1_addToTally 68 = .ok (.iload_n 1, 1) := dec_0 oX1_addToTally (of27 _) rfl
theorem dX1_addToTally_69 : decode cX1_addToTally 69 = .ok (.iconst 4, 1) := dec_0 oX1_addToTally (of7 _) rfl
theorem dX1_addToTally_70 : decode cX1_addToTally 70 = .ok (.if_icmp .ne 25, 3) := dec_s2 oX1_addToTally (of160 _) 0 25 rfl (sg16p rfl) rfl
theorem dX1_addToTally_73 : decode cX1_addToTally 73 = .ok (.aload_n 0, 1) := dec_0 oX1_addToTally (of42 _) rfl
theorem dX1_addToTally_74 : decode cX1_addToTally 74 = .ok (.getfield 11, 3) := dec_2 oX1_addToTally (of180 _) 0 11 rfl rfl
theorem dX1_addToTally_77 : decode cX1_addToTally 77 = .ok (.bipush 8, 2) := dec_s1 oX1_addToTally (of16 _) 8 rfl (sg8p rfl) rfl
theorem dX1_addToTally_79 : decode cX1_addToTally 79 = .ok (.dup2, 1) := dec_0 oX1_addToTally (of92 _) rfl
theorem dX1_addToTally_80 : decode cX1_addToTally 80 = .ok (.iaload, 1) := dec_0 oX1_addToTally (of46 _) rfl
theorem dX1_addToTally_81 : decode cX1_addToTally 81 = .ok (.aload_n 0, 1) := dec_0 oX1_addToTally (of42 _) rfl
theorem dX1_addToTally_82 : decode cX1_addToTally 82 = .ok (.getfield 28, 3) := dec_2 oX1_addToTally (of180 _) 0 28 rfl rfl
theorem dX1_addToTally_85 : decode cX1_addToTally 85 = .ok (.getfield 78, 3) := dec_2 oX1_addToTally (of180 _) 0 78 rfl rfl
theorem dX1_addToTally_88 : decode cX1_addToTally 88 = .ok (.getfield 97, 3) := dec_2 oX1_addToTally (of180 _) 0 97 rfl rfl
theorem dX1_addToTally_91 : decode cX1_addToTally 91 = .ok (.iconst 1, 1) := dec_0 oX1_addToTally (of4 _) rfl
theorem dX1_addToTally_92 : decode cX1_addToTally 92 = .ok (.iadd, 1) := dec_0 oX1_addToTally (of96 _) rfl
theorem dX1_addToTally_93 : decode cX1_addToTally 93 = .ok (.iadd, 1) := dec_0 oX1_addToTally (of96 _) rfl
theorem dX1_addToTally_94 : decode cX1_addToTally 94 = .ok (.iastore, 1) := dec_0 oX1_addToTally (of79 _) rfl
theorem dX1_addToTally_95 : decode cX1_addToTally 95 = .ok (.return_, 1) := dec_0 oX1_addToTally (of177 _) rfl
theorem dX1_findBest_0 : decode cX1_findBest 0 = .ok (.aload_n 0, 1) := dec_0 oX1_findBest (of42 _) rfl
theorem dX1_findBest_1 : decode cX1_findBest 1 = .ok (.bipush (-2), 2) := dec_s1 oX1_findBest (of16 _) 254 rfl (sg8n (k := 2) rfl) rfl
theorem dX1_findBest_3 : decode cX1_findBest 3 = .ok (.putfield 100, 3) := dec_2 oX1_findBest (of181 _) 0 100 rfl rfl
theorem dX1_findBest_6 : decode cX1_findBest 6 = .ok (.aload_n 0, 1) := dec_0 oX1_findBest (of42 _) rfl
theorem dX1_findBest_7 : decode cX1_findBest 7 = .ok (.bipush (-2), 2) := dec_s1 oX1_findBest (of16 _) 254 rfl (sg8n (k := 2) rfl) rfl
theorem dX1_findBest_9 : decode cX1_findBest 9 = .ok (.putfield 103, 3) := dec_2 oX1_findBest (of181 _) 0 103 rfl rfl
theorem dX1_findBest_12 : decode cX1_findBest 12 = .ok (.ldc 44, 2) := dec_1 oX1_findBest (of18 _) 44 rfl rfl
theorem dX1_findBest_14 : decode cX1_findBest 14 = .ok (.istore_n 3, 1) := dec_0 oX1_findBest (of62 _) rfl
theorem dX1_findBest_15 : decode cX1_findBest 15 = .ok (.aload_n 0, 1) := dec_0 oX1_findBest (of42 _) rfl
theorem dX1_findBest_16 : decode cX1_findBest 16 = .ok (.getfield 28, 3) := dec_2 oX1_findBest (of180 _) 0 28 rfl rfl
theorem dX1_findBest_19 : decode cX1_findBest 19 = .ok (.iload_n 1, 1) := dec_0 oX1_findBest (of27 _) rfl
theorem dX1_findBest_20 : decode cX1_findBest 20 = .ok (.iload_n 2, 1) := dec_0 oX1_findBest (of28 _) rfl
theorem dX1_findBest_21 : decode cX1_findBest 21 = .ok (.invokevirtual 55, 3) := dec_2 oX1_findBest (of182 _) 0 55 rfl rfl
theorem dX1_findBest_24 : decode cX1_findBest 24 = .ok (.iconst 0, 1) := dec_0 oX1_findBest (of3 _) rfl
theorem dX1_findBest_25 : decode cX1_findBest 25 = .ok (.istore 4, 2) := dec_1 oX1_findBest (of54 _) 4 rfl rfl
theorem dX1_findBest_27 : decode cX1_findBest 27 = .ok (.iload 4, 2) := dec_1 oX1_findBest (of21 _) 4 rfl rfl
theorem dX1_findBest_29 : decode cX1_findBest 29 = .ok (.aload_n 0, 1) := dec_0 oX1_findBest (of42 _) rfl
theorem dX1_findBest_30 : decode cX1_findBest 30 = .ok (.getfield 38, 3) := dec_2 oX1_findBest (of180 _) 0 38 rfl rfl
theorem dX1_findBest_33 : decode cX1_findBest 33 = .ok (.getfield 59, 3) := dec_2 oX1_findBest (of180 _) 0 59 rfl rfl
theorem dX1_findBest_36 : decode cX1_findBest 36 = .ok (.if_icmp .ge 74, 3) := dec_s2 oX1_findBest (of162 _) 0 74 rfl (sg16p rfl) rfl
theorem dX1_findBest_39 : decode cX1_findBest 39 = .ok (.aload_n 0, 1) := dec_0 oX1_findBest (of42 _) rfl
theorem dX1_findBest_40 : decode cX1_findBest 40 = .ok (.getfield 38, 3) := dec_2 oX1_findBest (of180 _) 0 38 rfl rfl
theorem dX1_findBest_43 : decode cX1_findBest 43 = .ok (.iload 4, 2) := dec_1 oX1_findBest (of21 _) 4 rfl rfl
theorem dX1_findBest_45 : decode cX1_findBest 45 = .ok (.aload_n 0, 1) := dec_0 oX1_findBest (of42 _) rfl
theorem dX1_findBest_46 : decode cX1_findBest 46 = .ok (.getfield 43, 3) := dec_2 oX1_findBest (of180 _) 0 43 rfl rfl
theorem dX1_findBest_49 : decode cX1_findBest 49 = .ok (.iload_n 1, 1) := dec_0 oX1_findBest (of27 _) rfl
theorem dX1_findBest_50 : decode cX1_findBest 50 = .ok (.invokevirtual 65, 3) := dec_2 oX1_findBest (of182 _) 0 65 rfl rfl
theorem dX1_findBest_53 : decode cX1_findBest 53 = .ok (.invokevirtual 70, 3) := dec_2 oX1_findBest (of182 _) 0 70 rfl rfl
theorem dX1_findBest_56 : decode cX1_findBest 56 = .ok (.ifCond .eq 48, 3) := dec_s2 oX1_findBest (of153 _) 0 48 rfl (sg16p rfl) rfl
theorem dX1_findBest_59 : decode cX1_findBest 59 = .ok (.aload_n 0, 1) := dec_0 oX1_findBest (of42 _) rfl
theorem dX1_findBest_60 : decode cX1_findBest 60 = .ok (.getfield 28, 3) := dec_2 oX1_findBest (of180 _) 0 28 rfl rfl
theorem dX1_findBest_63 : decode cX1_findBest 63 = .ok (.iload 4, 2) := dec_1 oX1_findBest (of21 _) 4 rfl rfl
theorem dX1_findBest_65 : decode cX1_findBest 65 = .ok (.invokevirtual 74, 3) := dec_2 oX1_findBest (of182 _) 0 74 rfl rfl
theorem dX1_findBest_68 : decode cX1_findBest 68 = .ok (.aload_n 0, 1) := dec_0 oX1_findBest (of42 _) rfl
theorem dX1_findBest_69 : decode cX1_findBest 69 = .ok (.getfield 28, 3) := dec_2 oX1_findBest (of180 _) 0 28 rfl rfl
theorem dX1_findBest_72 : decode cX1_findBest 72 = .ok (.getfield 78, 3) := dec_2 oX1_findBest (of180 _) 0 78 rfl rfl
theorem dX1_findBest_75 : decode cX1_findBest 75 = .ok (.iload_n 3, 1) := dec_0 oX1_findBest (of29 _) rfl
theorem dX1_findBest_76 : decode cX1_findBest 76 = .ok (.invokevirtual 106, 3) := dec_2 oX1_findBest (of182 _) 0 106 rfl rfl
theorem dX1_findBest_79 : decode cX1_findBest 79 = .ok (.ifCond .eq 25, 3) := dec_s2 oX1_findBest (of153 _) 0 25 rfl (sg16p rfl) rfl
theorem dX1_findBest_82 : decode cX1_findBest 82 = .ok (.aload_n 0, 1) := dec_0 oX1_findBest (of42 _) rfl
theorem dX1_findBest_83 : decode cX1_findBest 83 = .ok (.getfield 28, 3) := dec_2 oX1_findBest (of180 _) 0 28 rfl rfl
theorem dX1_findBest_86 : decode cX1_findBest 86 = .ok (.getfield 78, 3) := dec_2 oX1_findBest (of180 _) 0 78 rfl rfl
theorem dX1_findBest_89 : decode cX1_findBest 89 = .ok (.invokevirtual 90, 3) := dec_2 oX1_findBest (of182 _) 0 90 rfl rfl
theorem dX1_findBest_92 : decode cX1_findBest 92 = .ok (.istore_n 3, 1) := dec_0 oX1_findBest (of62 _) rfl
theorem dX1_findBest_93 : decode cX1_findBest 93 = .ok (.aload_n 0, 1) := dec_0 oX1_findBest (of42 _) rfl
theorem dX1_findBest_94 : decode cX1_findBest 94 = .ok (.iload 4, 2) := dec_1 oX1_findBest (of21 _) 4 rfl rfl
theorem dX1_findBest_96 : decode cX1_findBest 96 = .ok (.putfield 100, 3) := dec_2 oX1_findBest (of181 _) 0 100 rfl rfl
theorem dX1_findBest_99 : decode cX1_findBest 99 = .ok (.aload_n 0, 1) := dec_0 oX1_findBest (of42 _) rfl
theorem dX1_findBest_100 : decode cX1_findBest 100 = .ok (.iload_n 3, 1) := dec_0 oX1_findBest (of29 _) rfl
theorem dX1_findBest_101 : decode cX1_findBest 101 = .ok (.putfield 103, 3) := dec_2 oX1_findBest (of181 _) 0 103 rfl rfl
theorem dX1_findBest_104 : decode cX1_findBest 104 = .ok (.iinc 4 1, 3) := dec_ii oX1_findBest (of132 _) 4 1 rfl (sg8p rfl) rfl
theorem dX1_findBest_107 : decode cX1_findBest 107 = .ok (.goto (-80), 3) := dec_s2 oX1_findBest (of167 _) 255 176 rfl (sg16n (k := 80) rfl) rfl
theorem dX1_findBest_110 : decode cX1_findBest 110 = .ok (.return_, 1) := dec_0 oX1_findBest (of177 _) rfl
theorem dX1_neededBand_0 : decode cX1_neededBand 0 = .ok (.iconst 0, 1) := dec_0 oX1_neededBand (of3 _) rfl
theorem dX1_neededBand_1 : decode cX1_neededBand 1 = .ok (.istore_n 3, 1) := dec_0 oX1_neededBand (of62 _) rfl
theorem dX1_neededBand_2 : decode cX1_neededBand 2 = .ok (.iload_n 3, 1) := dec_0 oX1_neededBand (of29 _) rfl
theorem dX1_neededBand_3 : decode cX1_neededBand 3 = .ok (.aload_n 0, 1) := dec_0 oX1_neededBand (of42 _) rfl
theorem dX1_neededBand_4 : decode cX1_neededBand 4 = .ok (.getfield 43, 3) := dec_2 oX1_neededBand (of180 _) 0 43 rfl rfl
theorem dX1_neededBand_7 : decode cX1_neededBand 7 = .ok (.iload_n 1, 1) := dec_0 oX1_neededBand (of27 _) rfl
theorem dX1_neededBand_8 : decode cX1_neededBand 8 = .ok (.invokevirtual 65, 3) := dec_2 oX1_neededBand (of182 _) 0 65 rfl rfl
theorem dX1_neededBand_11 : decode cX1_neededBand 11 = .ok (.if_icmp .ge 25, 3) := dec_s2 oX1_neededBand (of162 _) 0 25 rfl (sg16p rfl) rfl
theorem dX1_neededBand_14 : decode cX1_neededBand 14 = .ok (.aload_n 0, 1) := dec_0 oX1_neededBand (of42 _) rfl
theorem dX1_neededBand_15 : decode cX1_neededBand 15 = .ok (.iload_n 1, 1) := dec_0 oX1_neededBand (of27 _) rfl
theorem dX1_neededBand_16 : decode cX1_neededBand 16 = .ok (.iload_n 3, 1) := dec_0 oX1_neededBand (of29 _) rfl
theorem dX1_neededBand_17 : decode cX1_neededBand 17 = .ok (.invokevirtual 110, 3) := dec_2 oX1_neededBand (of182 _) 0 110 rfl rfl
theorem dX1_neededBand_20 : decode cX1_neededBand 20 = .ok (.aload_n 0, 1) := dec_0 oX1_neededBand (of42 _) rfl
theorem dX1_neededBand_21 : decode cX1_neededBand 21 = .ok (.getfield 100, 3) := dec_2 oX1_neededBand (of180 _) 0 100 rfl rfl
theorem dX1_neededBand_24 : decode cX1_neededBand 24 = .ok (.iload_n 2, 1) := dec_0 oX1_neededBand (of28 _) rfl
theorem dX1_neededBand_25 : decode cX1_neededBand 25 = .ok (.if_icmp .ne 5, 3) := dec_s2 oX1_neededBand (of160 _) 0 5 rfl (sg16p rfl) rfl
theorem dX1_neededBand_28 : decode cX1_neededBand 28 = .ok (.iload_n 3, 1) := dec_0 oX1_neededBand (of29 _) rfl
theorem dX1_neededBand_29 : decode cX1_neededBand 29 = .ok (.ireturn, 1) := dec_0 oX1_neededBand (of172 _) rfl
theorem dX1_neededBand_30 : decode cX1_neededBand 30 = .ok (.iinc 3 1, 3) := dec_ii oX1_neededBand (of132 _) 3 1 rfl (sg8p rfl) rfl
theorem dX1_neededBand_33 : decode cX1_neededBand 33 = .ok (.goto (-31), 3) := dec_s2 oX1_neededBand (of167 _) 255 225 rfl (sg16n (k := 31) rfl) rfl
theorem dX1_neededBand_36 : decode cX1_neededBand 36 = .ok (.bipush (-2), 2) := dec_s1 oX1_neededBand (of16 _) 254 rfl (sg8n (k := 2) rfl) rfl
theorem dX1_neededBand_38 : decode cX1_neededBand 38 = .ok (.ireturn, 1) := dec_0 oX1_neededBand (of172 _) rfl
theorem dX1_scan_0 : decode cX1_scan 0 = .ok (.aload_n 0, 1) := dec_0 oX1_scan (of42 _) rfl
theorem dX1_scan_1 : decode cX1_scan 1 = .ok (.getfield 28, 3) := dec_2 oX1_scan (of180 _) 0 28 rfl rfl
theorem dX1_scan_4 : decode cX1_scan 4 = .ok (.iload_n 1, 1) := dec_0 oX1_scan (of27 _) rfl
theorem dX1_scan_5 : decode cX1_scan 5 = .ok (.aload_n 0, 1) := dec_0 oX1_scan (of42 _) rfl
theorem dX1_scan_6 : decode cX1_scan 6 = .ok (.getfield 28, 3) := dec_2 oX1_scan (of180 _) 0 28 rfl rfl
theorem dX1_scan_9 : decode cX1_scan 9 = .ok (.getfield 45, 3) := dec_2 oX1_scan (of180 _) 0 45 rfl rfl
theorem dX1_scan_12 : decode cX1_scan 12 = .ok (.iconst 0, 1) := dec_0 oX1_scan (of3 _) rfl
theorem dX1_scan_13 : decode cX1_scan 13 = .ok (.invokevirtual 49, 3) := dec_2 oX1_scan (of182 _) 0 49 rfl rfl
theorem dX1_scan_16 : decode cX1_scan 16 = .ok (.invokevirtual 55, 3) := dec_2 oX1_scan (of182 _) 0 55 rfl rfl
theorem dX1_scan_19 : decode cX1_scan 19 = .ok (.iconst 0, 1) := dec_0 oX1_scan (of3 _) rfl
theorem dX1_scan_20 : decode cX1_scan 20 = .ok (.istore_n 2, 1) := dec_0 oX1_scan (of61 _) rfl
theorem dX1_scan_21 : decode cX1_scan 21 = .ok (.iload_n 2, 1) := dec_0 oX1_scan (of28 _) rfl
theorem dX1_scan_22 : decode cX1_scan 22 = .ok (.sipush 160, 3) := dec_s2 oX1_scan (of17 _) 0 160 rfl (sg16p rfl) rfl
theorem dX1_scan_25 : decode cX1_scan 25 = .ok (.if_icmp .ge 59, 3) := dec_s2 oX1_scan (of162 _) 0 59 rfl (sg16p rfl) rfl
theorem dX1_scan_28 : decode cX1_scan 28 = .ok (.aload_n 0, 1) := dec_0 oX1_scan (of42 _) rfl
theorem dX1_scan_29 : decode cX1_scan 29 = .ok (.getfield 15, 3) := dec_2 oX1_scan (of180 _) 0 15 rfl rfl
theorem dX1_scan_32 : decode cX1_scan 32 = .ok (.iload_n 2, 1) := dec_0 oX1_scan (of28 _) rfl
theorem dX1_scan_33 : decode cX1_scan 33 = .ok (.iconst (-1), 1) := dec_0 oX1_scan (of2 _) rfl
theorem dX1_scan_34 : decode cX1_scan 34 = .ok (.iastore, 1) := dec_0 oX1_scan (of79 _) rfl
theorem dX1_scan_35 : decode cX1_scan 35 = .ok (.aload_n 0, 1) := dec_0 oX1_scan (of42 _) rfl
theorem dX1_scan_36 : decode cX1_scan 36 = .ok (.getfield 38, 3) := dec_2 oX1_scan (of180 _) 0 38 rfl rfl
theorem dX1_scan_39 : decode cX1_scan 39 = .ok (.iload_n 2, 1) := dec_0 oX1_scan (of28 _) rfl
theorem dX1_scan_40 : decode cX1_scan 40 = .ok (.aload_n 0, 1) := dec_0 oX1_scan (of42 _) rfl
theorem dX1_scan_41 : decode cX1_scan 41 = .ok (.getfield 43, 3) := dec_2 oX1_scan (of180 _) 0 43 rfl rfl
theorem dX1_scan_44 : decode cX1_scan 44 = .ok (.iload_n 1, 1) := dec_0 oX1_scan (of27 _) rfl
theorem dX1_scan_45 : decode cX1_scan 45 = .ok (.invokevirtual 65, 3) := dec_2 oX1_scan (of182 _) 0 65 rfl rfl
theorem dX1_scan_48 : decode cX1_scan 48 = .ok (.invokevirtual 70, 3) := dec_2 oX1_scan (of182 _) 0 70 rfl rfl
theorem dX1_scan_51 : decode cX1_scan 51 = .ok (.ifCond .eq 27, 3) := dec_s2 oX1_scan (of153 _) 0 27 rfl (sg16p rfl) rfl
theorem dX1_scan_54 : decode cX1_scan 54 = .ok (.aload_n 0, 1) := dec_0 oX1_scan (of42 _) rfl
theorem dX1_scan_55 : decode cX1_scan 55 = .ok (.getfield 28, 3) := dec_2 oX1_scan (of180 _) 0 28 rfl rfl
theorem dX1_scan_58 : decode cX1_scan 58 = .ok (.iload_n 2, 1) := dec_0 oX1_scan (of28 _) rfl
theorem dX1_scan_59 : decode cX1_scan 59 = .ok (.invokevirtual 74, 3) := dec_2 oX1_scan (of182 _) 0 74 rfl rfl
theorem dX1_scan_62 : decode cX1_scan 62 = .ok (.aload_n 0, 1) := dec_0 oX1_scan (of42 _) rfl
theorem dX1_scan_63 : decode cX1_scan 63 = .ok (.getfield 15, 3) := dec_2 oX1_scan (of180 _) 0 15 rfl rfl
theorem dX1_scan_66 : decode cX1_scan 66 = .ok (.iload_n 2, 1) := dec_0 oX1_scan (of28 _) rfl
theorem dX1_scan_67 : decode cX1_scan 67 = .ok (.aload_n 0, 1) := dec_0 oX1_scan (of42 _) rfl
theorem dX1_scan_68 : decode cX1_scan 68 = .ok (.getfield 28, 3) := dec_2 oX1_scan (of180 _) 0 28 rfl rfl
theorem dX1_scan_71 : decode cX1_scan 71 = .ok (.getfield 78, 3) := dec_2 oX1_scan (of180 _) 0 78 rfl rfl
theorem dX1_scan_74 : decode cX1_scan 74 = .ok (.invokevirtual 113, 3) := dec_2 oX1_scan (of182 _) 0 113 rfl rfl
theorem dX1_scan_77 : decode cX1_scan 77 = .ok (.iastore, 1) := dec_0 oX1_scan (of79 _) rfl
theorem dX1_scan_78 : decode cX1_scan 78 = .ok (.iinc 2 1, 3) := dec_ii oX1_scan (of132 _) 2 1 rfl (sg8p rfl) rfl
theorem dX1_scan_81 : decode cX1_scan 81 = .ok (.goto (-60), 3) := dec_s2 oX1_scan (of167 _) 255 196 rfl (sg16n (k := 60) rfl) rfl
theorem dX1_scan_84 : decode cX1_scan 84 = .ok (.return_, 1) := dec_0 oX1_scan (of177 _) rfl
theorem dX1_scannedDistance_0 : decode cX1_scannedDistance 0 = .ok (.iload_n 1, 1) := dec_0 oX1_scannedDistance (of27 _) rfl
theorem dX1_scannedDistance_1 : decode cX1_scannedDistance 1 = .ok (.ifCond .lt 19, 3) := dec_s2 oX1_scannedDistance (of155 _) 0 19 rfl (sg16p rfl) rfl
theorem dX1_scannedDistance_4 : decode cX1_scannedDistance 4 = .ok (.iload_n 1, 1) := dec_0 oX1_scannedDistance (of27 _) rfl
theorem dX1_scannedDistance_5 : decode cX1_scannedDistance 5 = .ok (.sipush 160, 3) := dec_s2 oX1_scannedDistance (of17 _) 0 160 rfl (sg16p rfl) rfl
theorem dX1_scannedDistance_8 : decode cX1_scannedDistance 8 = .ok (.if_icmp .ge 12, 3) := dec_s2 oX1_scannedDistance (of162 _) 0 12 rfl (sg16p rfl) rfl
theorem dX1_scannedDistance_11 : decode cX1_scannedDistance 11 = .ok (.aload_n 0, 1) := dec_0 oX1_scannedDistance (of42 _) rfl
theorem dX1_scannedDistance_12 : decode cX1_scannedDistance 12 = .ok (.getfield 15, 3) := dec_2 oX1_scannedDistance (of180 _) 0 15 rfl rfl
theorem dX1_scannedDistance_15 : decode cX1_scannedDistance 15 = .ok (.iload_n 1, 1) := dec_0 oX1_scannedDistance (of27 _) rfl
theorem dX1_scannedDistance_16 : decode cX1_scannedDistance 16 = .ok (.iaload, 1) := dec_0 oX1_scannedDistance (of46 _) rfl
theorem dX1_scannedDistance_17 : decode cX1_scannedDistance 17 = .ok (.goto 5, 3) := dec_s2 oX1_scannedDistance (of167 _) 0 5 rfl (sg16p rfl) rfl
theorem dX1_scannedDistance_20 : decode cX1_scannedDistance 20 = .ok (.bipush (-2), 2) := dec_s1 oX1_scannedDistance (of16 _) 254 rfl (sg8n (k := 2) rfl) rfl
theorem dX1_scannedDistance_22 : decode cX1_scannedDistance 22 = .ok (.ireturn, 1) := dec_0 oX1_scannedDistance (of172 _) rfl
theorem dX1_leastScanned_0 : decode cX1_leastScanned 0 = .ok (.iconst (-1), 1) := dec_0 oX1_leastScanned (of2 _) rfl
theorem dX1_leastScanned_1 : decode cX1_leastScanned 1 = .ok (.istore_n 1, 1) := dec_0 oX1_leastScanned (of60 _) rfl
theorem dX1_leastScanned_2 : decode cX1_leastScanned 2 = .ok (.iconst 0, 1) := dec_0 oX1_leastScanned (of3 _) rfl
theorem dX1_leastScanned_3 : decode cX1_leastScanned 3 = .ok (.istore_n 2, 1) := dec_0 oX1_leastScanned (of61 _) rfl
theorem dX1_leastScanned_4 : decode cX1_leastScanned 4 = .ok (.iload_n 2, 1) := dec_0 oX1_leastScanned (of28 _) rfl
theorem dX1_leastScanned_5 : decode cX1_leastScanned 5 = .ok (.sipush 160, 3) := dec_s2 oX1_leastScanned (of17 _) 0 160 rfl (sg16p rfl) rfl
theorem dX1_leastScanned_8 : decode cX1_leastScanned 8 = .ok (.if_icmp .ge 39, 3) := dec_s2 oX1_leastScanned (of162 _) 0 39 rfl (sg16p rfl) rfl
theorem dX1_leastScanned_11 : decode cX1_leastScanned 11 = .ok (.aload_n 0, 1) := dec_0 oX1_leastScanned (of42 _) rfl
theorem dX1_leastScanned_12 : decode cX1_leastScanned 12 = .ok (.getfield 15, 3) := dec_2 oX1_leastScanned (of180 _) 0 15 rfl rfl
theorem dX1_leastScanned_15 : decode cX1_leastScanned 15 = .ok (.iload_n 2, 1) := dec_0 oX1_leastScanned (of28 _) rfl
theorem dX1_leastScanned_16 : decode cX1_leastScanned 16 = .ok (.iaload, 1) := dec_0 oX1_leastScanned (of46 _) rfl
theorem dX1_leastScanned_17 : decode cX1_leastScanned 17 = .ok (.ifCond .lt 24, 3) := dec_s2 oX1_leastScanned (of155 _) 0 24 rfl (sg16p rfl) rfl
theorem dX1_leastScanned_20 : decode cX1_leastScanned 20 = .ok (.iload_n 1, 1) := dec_0 oX1_leastScanned (of27 _) rfl
theorem dX1_leastScanned_21 : decode cX1_leastScanned 21 = .ok (.ifCond .lt 18, 3) := dec_s2 oX1_leastScanned (of155 _) 0 18 rfl (sg16p rfl) rfl
theorem dX1_leastScanned_24 : decode cX1_leastScanned 24 = .ok (.aload_n 0, 1) := dec_0 oX1_leastScanned (of42 _) rfl
theorem dX1_leastScanned_25 : decode cX1_leastScanned 25 = .ok (.getfield 15, 3) := dec_2 oX1_leastScanned (of180 _) 0 15 rfl rfl
theorem dX1_leastScanned_28 : decode cX1_leastScanned 28 = .ok (.iload_n 2, 1) := dec_0 oX1_leastScanned (of28 _) rfl
theorem dX1_leastScanned_29 : decode cX1_leastScanned 29 = .ok (.iaload, 1) := dec_0 oX1_leastScanned (of46 _) rfl
theorem dX1_leastScanned_30 : decode cX1_leastScanned 30 = .ok (.aload_n 0, 1) := dec_0 oX1_leastScanned (of42 _) rfl
theorem dX1_leastScanned_31 : decode cX1_leastScanned 31 = .ok (.getfield 15, 3) := dec_2 oX1_leastScanned (of180 _) 0 15 rfl rfl
theorem dX1_leastScanned_34 : decode cX1_leastScanned 34 = .ok (.iload_n 1, 1) := dec_0 oX1_leastScanned (of27 _) rfl
theorem dX1_leastScanned_35 : decode cX1_leastScanned 35 = .ok (.iaload, 1) := dec_0 oX1_leastScanned (of46 _) rfl
theorem dX1_leastScanned_36 : decode cX1_leastScanned 36 = .ok (.if_icmp .ge 5, 3) := dec_s2 oX1_leastScanned (of162 _) 0 5 rfl (sg16p rfl) rfl
theorem dX1_leastScanned_39 : decode cX1_leastScanned 39 = .ok (.iload_n 2, 1) := dec_0 oX1_leastScanned (of28 _) rfl
theorem dX1_leastScanned_40 : decode cX1_leastScanned 40 = .ok (.istore_n 1, 1) := dec_0 oX1_leastScanned (of60 _) rfl
theorem dX1_leastScanned_41 : decode cX1_leastScanned 41 = .ok (.iinc 2 1, 3) := dec_ii oX1_leastScanned (of132 _) 2 1 rfl (sg8p rfl) rfl
theorem dX1_leastScanned_44 : decode cX1_leastScanned 44 = .ok (.goto (-40), 3) := dec_s2 oX1_leastScanned (of167 _) 255 216 rfl (sg16n (k := 40) rfl) rfl
theorem dX1_leastScanned_47 : decode cX1_leastScanned 47 = .ok (.iload_n 1, 1) := dec_0 oX1_leastScanned (of27 _) rfl
theorem dX1_leastScanned_48 : decode cX1_leastScanned 48 = .ok (.ireturn, 1) := dec_0 oX1_leastScanned (of172 _) rfl
theorem dX1_findMatches_0 : decode cX1_findMatches 0 = .ok (.aload_n 0, 1) := dec_0 oX1_findMatches (of42 _) rfl
theorem dX1_findMatches_1 : decode cX1_findMatches 1 = .ok (.iload_n 1, 1) := dec_0 oX1_findMatches (of27 _) rfl
theorem dX1_findMatches_2 : decode cX1_findMatches 2 = .ok (.invokevirtual 116, 3) := dec_2 oX1_findMatches (of182 _) 0 116 rfl rfl
theorem dX1_findMatches_5 : decode cX1_findMatches 5 = .ok (.aload_n 0, 1) := dec_0 oX1_findMatches (of42 _) rfl
theorem dX1_findMatches_6 : decode cX1_findMatches 6 = .ok (.iconst 0, 1) := dec_0 oX1_findMatches (of3 _) rfl
theorem dX1_findMatches_7 : decode cX1_findMatches 7 = .ok (.putfield 119, 3) := dec_2 oX1_findMatches (of181 _) 0 119 rfl rfl
theorem dX1_findMatches_10 : decode cX1_findMatches 10 = .ok (.aload_n 0, 1) := dec_0 oX1_findMatches (of42 _) rfl
theorem dX1_findMatches_11 : decode cX1_findMatches 11 = .ok (.invokevirtual 122, 3) := dec_2 oX1_findMatches (of182 _) 0 122 rfl rfl
theorem dX1_findMatches_14 : decode cX1_findMatches 14 = .ok (.istore_n 2, 1) := dec_0 oX1_findMatches (of61 _) rfl
theorem dX1_findMatches_15 : decode cX1_findMatches 15 = .ok (.iconst 0, 1) := dec_0 oX1_findMatches (of3 _) rfl
theorem dX1_findMatches_16 : decode cX1_findMatches 16 = .ok (.istore_n 3, 1) := dec_0 oX1_findMatches (of62 _) rfl
theorem dX1_findMatches_17 : decode cX1_findMatches 17 = .ok (.iload_n 3, 1) := dec_0 oX1_findMatches (of29 _) rfl
theorem dX1_findMatches_18 : decode cX1_findMatches 18 = .ok (.sipush 160, 3) := dec_s2 oX1_findMatches (of17 _) 0 160 rfl (sg16p rfl) rfl
theorem dX1_findMatches_21 : decode cX1_findMatches 21 = .ok (.if_icmp .ge 49, 3) := dec_s2 oX1_findMatches (of162 _) 0 49 rfl (sg16p rfl) rfl
theorem dX1_findMatches_24 : decode cX1_findMatches 24 = .ok (.iload_n 2, 1) := dec_0 oX1_findMatches (of28 _) rfl
theorem dX1_findMatches_25 : decode cX1_findMatches 25 = .ok (.ifCond .lt 45, 3) := dec_s2 oX1_findMatches (of155 _) 0 45 rfl (sg16p rfl) rfl
theorem dX1_findMatches_28 : decode cX1_findMatches 28 = .ok (.aload_n 0, 1) := dec_0 oX1_findMatches (of42 _) rfl
theorem dX1_findMatches_29 : decode cX1_findMatches 29 = .ok (.getfield 18, 3) := dec_2 oX1_findMatches (of180 _) 0 18 rfl rfl
theorem dX1_findMatches_32 : decode cX1_findMatches 32 = .ok (.iload_n 3, 1) := dec_0 oX1_findMatches (of29 _) rfl
theorem dX1_findMatches_33 : decode cX1_findMatches 33 = .ok (.iload_n 2, 1) := dec_0 oX1_findMatches (of28 _) rfl
theorem dX1_findMatches_34 : decode cX1_findMatches 34 = .ok (.iastore, 1) := dec_0 oX1_findMatches (of79 _) rfl
theorem dX1_findMatches_35 : decode cX1_findMatches 35 = .ok (.aload_n 0, 1) := dec_0 oX1_findMatches (of42 _) rfl
theorem dX1_findMatches_36 : decode cX1_findMatches 36 = .ok (.getfield 21, 3) := dec_2 oX1_findMatches (of180 _) 0 21 rfl rfl
theorem dX1_findMatches_39 : decode cX1_findMatches 39 = .ok (.iload_n 3, 1) := dec_0 oX1_findMatches (of29 _) rfl
theorem dX1_findMatches_40 : decode cX1_findMatches 40 = .ok (.aload_n 0, 1) := dec_0 oX1_findMatches (of42 _) rfl
theorem dX1_findMatches_41 : decode cX1_findMatches 41 = .ok (.getfield 15, 3) := dec_2 oX1_findMatches (of180 _) 0 15 rfl rfl
theorem dX1_findMatches_44 : decode cX1_findMatches 44 = .ok (.iload_n 2, 1) := dec_0 oX1_findMatches (of28 _) rfl
theorem dX1_findMatches_45 : decode cX1_findMatches 45 = .ok (.iaload, 1) := dec_0 oX1_findMatches (of46 _) rfl
theorem dX1_findMatches_46 : decode cX1_findMatches 46 = .ok (.iastore, 1) := dec_0 oX1_findMatches (of79 _) rfl
theorem dX1_findMatches_47 : decode cX1_findMatches 47 = .ok (.aload_n 0, 1) := dec_0 oX1_findMatches (of42 _) rfl
theorem dX1_findMatches_48 : decode cX1_findMatches 48 = .ok (.iload_n 3, 1) := dec_0 oX1_findMatches (of29 _) rfl
theorem dX1_findMatches_49 : decode cX1_findMatches 49 = .ok (.iconst 1, 1) := dec_0 oX1_findMatches (of4 _) rfl
theorem dX1_findMatches_50 : decode cX1_findMatches 50 = .ok (.iadd, 1) := dec_0 oX1_findMatches (of96 _) rfl
theorem dX1_findMatches_51 : decode cX1_findMatches 51 = .ok (.putfield 119, 3) := dec_2 oX1_findMatches (of181 _) 0 119 rfl rfl
theorem dX1_findMatches_54 : decode cX1_findMatches 54 = .ok (.aload_n 0, 1) := dec_0 oX1_findMatches (of42 _) rfl
theorem dX1_findMatches_55 : decode cX1_findMatches 55 = .ok (.iload_n 2, 1) := dec_0 oX1_findMatches (of28 _) rfl
theorem dX1_findMatches_56 : decode cX1_findMatches 56 = .ok (.invokevirtual 125, 3) := dec_2 oX1_findMatches (of182 _) 0 125 rfl rfl
theorem dX1_findMatches_59 : decode cX1_findMatches 59 = .ok (.aload_n 0, 1) := dec_0 oX1_findMatches (of42 _) rfl
theorem dX1_findMatches_60 : decode cX1_findMatches 60 = .ok (.invokevirtual 122, 3) := dec_2 oX1_findMatches (of182 _) 0 122 rfl rfl
theorem dX1_findMatches_63 : decode cX1_findMatches 63 = .ok (.istore_n 2, 1) := dec_0 oX1_findMatches (of61 _) rfl
theorem dX1_findMatches_64 : decode cX1_findMatches 64 = .ok (.iinc 3 1, 3) := dec_ii oX1_findMatches (of132 _) 3 1 rfl (sg8p rfl) rfl
theorem dX1_findMatches_67 : decode cX1_findMatches 67 = .ok (.goto (-50), 3) := dec_s2 oX1_findMatches (of167 _) 255 206 rfl (sg16n (k := 50) rfl) rfl
theorem dX1_findMatches_70 : decode cX1_findMatches 70 = .ok (.return_, 1) := dec_0 oX1_findMatches (of177 _) rfl
theorem dX1_passOverAround_0 : decode cX1_passOverAround 0 = .ok (.aload_n 0, 1) := dec_0 oX1_passOverAround (of42 _) rfl
theorem dX1_passOverAround_1 : decode cX1_passOverAround 1 = .ok (.getfield 28, 3) := dec_2 oX1_passOverAround (of180 _) 0 28 rfl rfl
theorem dX1_passOverAround_4 : decode cX1_passOverAround 4 = .ok (.getfield 45, 3) := dec_2 oX1_passOverAround (of180 _) 0 45 rfl rfl
theorem dX1_passOverAround_7 : decode cX1_passOverAround 7 = .ok (.iconst 3, 1) := dec_0 oX1_passOverAround (of6 _) rfl
theorem dX1_passOverAround_8 : decode cX1_passOverAround 8 = .ok (.invokevirtual 49, 3) := dec_2 oX1_passOverAround (of182 _) 0 49 rfl rfl
theorem dX1_passOverAround_11 : decode cX1_passOverAround 11 = .ok (.istore_n 2, 1) := dec_0 oX1_passOverAround (of61 _) rfl
theorem dX1_passOverAround_12 : decode cX1_passOverAround 12 = .ok (.iconst 0, 1) := dec_0 oX1_passOverAround (of3 _) rfl
theorem dX1_passOverAround_13 : decode cX1_passOverAround 13 = .ok (.istore_n 3, 1) := dec_0 oX1_passOverAround (of62 _) rfl
theorem dX1_passOverAround_14 : decode cX1_passOverAround 14 = .ok (.iload_n 3, 1) := dec_0 oX1_passOverAround (of29 _) rfl
theorem dX1_passOverAround_15 : decode cX1_passOverAround 15 = .ok (.sipush 160, 3) := dec_s2 oX1_passOverAround (of17 _) 0 160 rfl (sg16p rfl) rfl
theorem dX1_passOverAround_18 : decode cX1_passOverAround 18 = .ok (.if_icmp .ge 26, 3) := dec_s2 oX1_passOverAround (of162 _) 0 26 rfl (sg16p rfl) rfl
theorem dX1_passOverAround_21 : decode cX1_passOverAround 21 = .ok (.iload_n 3, 1) := dec_0 oX1_passOverAround (of29 _) rfl
theorem dX1_passOverAround_22 : decode cX1_passOverAround 22 = .ok (.iload_n 1, 1) := dec_0 oX1_passOverAround (of27 _) rfl
theorem dX1_passOverAround_23 : decode cX1_passOverAround 23 = .ok (.isub, 1) := dec_0 oX1_passOverAround (of100 _) rfl
theorem dX1_passOverAround_24 : decode cX1_passOverAround 24 = .ok (.invokestatic 128, 3) := dec_2 oX1_passOverAround (of184 _) 0 128 rfl rfl
theorem dX1_passOverAround_27 : decode cX1_passOverAround 27 = .ok (.iload_n 2, 1) := dec_0 oX1_passOverAround (of28 _) rfl
theorem dX1_passOverAround_28 : decode cX1_passOverAround 28 = .ok (.if_icmp .ge 10, 3) := dec_s2 oX1_passOverAround (of162 _) 0 10 rfl (sg16p rfl) rfl
theorem dX1_passOverAround_31 : decode cX1_passOverAround 31 = .ok (.aload_n 0, 1) := dec_0 oX1_passOverAround (of42 _) rfl
theorem dX1_passOverAround_32 : decode cX1_passOverAround 32 = .ok (.getfield 15, 3) := dec_2 oX1_passOverAround (of180 _) 0 15 rfl rfl
theorem dX1_passOverAround_35 : decode cX1_passOverAround 35 = .ok (.iload_n 3, 1) := dec_0 oX1_passOverAround (of29 _) rfl
theorem dX1_passOverAround_36 : decode cX1_passOverAround 36 = .ok (.iconst (-1), 1) := dec_0 oX1_passOverAround (of2 _) rfl
theorem dX1_passOverAround_37 : decode cX1_passOverAround 37 = .ok (.iastore, 1) := dec_0 oX1_passOverAround (of79 _) rfl
theorem dX1_passOverAround_38 : decode cX1_passOverAround 38 = .ok (.iinc 3 1, 3) := dec_ii oX1_passOverAround (of132 _) 3 1 rfl (sg8p rfl) rfl
theorem dX1_passOverAround_41 : decode cX1_passOverAround 41 = .ok (.goto (-27), 3) := dec_s2 oX1_passOverAround (of167 _) 255 229 rfl (sg16n (k := 27) rfl) rfl
theorem dX1_passOverAround_44 : decode cX1_passOverAround 44 = .ok (.return_, 1) := dec_0 oX1_passOverAround (of177 _) rfl
theorem dX1_matchWindow_0 : decode cX1_matchWindow 0 = .ok (.iload_n 1, 1) := dec_0 oX1_matchWindow (of27 _) rfl
theorem dX1_matchWindow_1 : decode cX1_matchWindow 1 = .ok (.ifCond .lt 27, 3) := dec_s2 oX1_matchWindow (of155 _) 0 27 rfl (sg16p rfl) rfl
theorem dX1_matchWindow_4 : decode cX1_matchWindow 4 = .ok (.iload_n 1, 1) := dec_0 oX1_matchWindow (of27 _) rfl
theorem dX1_matchWindow_5 : decode cX1_matchWindow 5 = .ok (.aload_n 0, 1) := dec_0 oX1_matchWindow (of42 _) rfl
theorem dX1_matchWindow_6 : decode cX1_matchWindow 6 = .ok (.getfield 119, 3) := dec_2 oX1_matchWindow (of180 _) 0 119 rfl rfl
theorem dX1_matchWindow_9 : decode cX1_matchWindow 9 = .ok (.if_icmp .ge 19, 3) := dec_s2 oX1_matchWindow (of162 _) 0 19 rfl (sg16p rfl) rfl
theorem dX1_matchWindow_12 : decode cX1_matchWindow 12 = .ok (.iload_n 1, 1) := dec_0 oX1_matchWindow (of27 _) rfl
theorem dX1_matchWindow_13 : decode cX1_matchWindow 13 = .ok (.sipush 160, 3) := dec_s2 oX1_matchWindow (of17 _) 0 160 rfl (sg16p rfl) rfl
theorem dX1_matchWindow_16 : decode cX1_matchWindow 16 = .ok (.if_icmp .ge 12, 3) := dec_s2 oX1_matchWindow (of162 _) 0 12 rfl (sg16p rfl) rfl
theorem dX1_matchWindow_19 : decode cX1_matchWindow 19 = .ok (.aload_n 0, 1) := dec_0 oX1_matchWindow (of42 _) rfl
theorem dX1_matchWindow_20 : decode cX1_matchWindow 20 = .ok (.getfield 18, 3) := dec_2 oX1_matchWindow (of180 _) 0 18 rfl rfl
theorem dX1_matchWindow_23 : decode cX1_matchWindow 23 = .ok (.iload_n 1, 1) := dec_0 oX1_matchWindow (of27 _) rfl
theorem dX1_matchWindow_24 : decode cX1_matchWindow 24 = .ok (.iaload, 1) := dec_0 oX1_matchWindow (of46 _) rfl
theorem dX1_matchWindow_25 : decode cX1_matchWindow 25 = .ok (.goto 5, 3) := dec_s2 oX1_matchWindow (of167 _) 0 5 rfl (sg16p rfl) rfl
theorem dX1_matchWindow_28 : decode cX1_matchWindow 28 = .ok (.bipush (-2), 2) := dec_s1 oX1_matchWindow (of16 _) 254 rfl (sg8n (k := 2) rfl) rfl
theorem dX1_matchWindow_30 : decode cX1_matchWindow 30 = .ok (.ireturn, 1) := dec_0 oX1_matchWindow (of172 _) rfl
theorem dX1_matchDistance_0 : decode cX1_matchDistance 0 = .ok (.iload_n 1, 1) := dec_0 oX1_matchDistance (of27 _) rfl
theorem dX1_matchDistance_1 : decode cX1_matchDistance 1 = .ok (.ifCond .lt 27, 3) := dec_s2 oX1_matchDistance (of155 _) 0 27 rfl (sg16p rfl) rfl
theorem dX1_matchDistance_4 : decode cX1_matchDistance 4 = .ok (.iload_n 1, 1) := dec_0 oX1_matchDistance (of27 _) rfl
theorem dX1_matchDistance_5 : decode cX1_matchDistance 5 = .ok (.aload_n 0, 1) := dec_0 oX1_matchDistance (of42 _) rfl
theorem dX1_matchDistance_6 : decode cX1_matchDistance 6 = .ok (.getfield 119, 3) := dec_2 oX1_matchDistance (of180 _) 0 119 rfl rfl
theorem dX1_matchDistance_9 : decode cX1_matchDistance 9 = .ok (.if_icmp .ge 19, 3) := dec_s2 oX1_matchDistance (of162 _) 0 19 rfl (sg16p rfl) rfl
theorem dX1_matchDistance_12 : decode cX1_matchDistance 12 = .ok (.iload_n 1, 1) := dec_0 oX1_matchDistance (of27 _) rfl
theorem dX1_matchDistance_13 : decode cX1_matchDistance 13 = .ok (.sipush 160, 3) := dec_s2 oX1_matchDistance (of17 _) 0 160 rfl (sg16p rfl) rfl
theorem dX1_matchDistance_16 : decode cX1_matchDistance 16 = .ok (.if_icmp .ge 12, 3) := dec_s2 oX1_matchDistance (of162 _) 0 12 rfl (sg16p rfl) rfl
theorem dX1_matchDistance_19 : decode cX1_matchDistance 19 = .ok (.aload_n 0, 1) := dec_0 oX1_matchDistance (of42 _) rfl
theorem dX1_matchDistance_20 : decode cX1_matchDistance 20 = .ok (.getfield 21, 3) := dec_2 oX1_matchDistance (of180 _) 0 21 rfl rfl
theorem dX1_matchDistance_23 : decode cX1_matchDistance 23 = .ok (.iload_n 1, 1) := dec_0 oX1_matchDistance (of27 _) rfl
theorem dX1_matchDistance_24 : decode cX1_matchDistance 24 = .ok (.iaload, 1) := dec_0 oX1_matchDistance (of46 _) rfl
theorem dX1_matchDistance_25 : decode cX1_matchDistance 25 = .ok (.goto 5, 3) := dec_s2 oX1_matchDistance (of167 _) 0 5 rfl (sg16p rfl) rfl
theorem dX1_matchDistance_28 : decode cX1_matchDistance 28 = .ok (.bipush (-2), 2) := dec_s1 oX1_matchDistance (of16 _) 254 rfl (sg8n (k := 2) rfl) rfl
theorem dX1_matchDistance_30 : decode cX1_matchDistance 30 = .ok (.ireturn, 1) := dec_0 oX1_matchDistance (of172 _) rfl
theorem dX1_matchesWithin_0 : decode cX1_matchesWithin 0 = .ok (.iconst 0, 1) := dec_0 oX1_matchesWithin (of3 _) rfl
theorem dX1_matchesWithin_1 : decode cX1_matchesWithin 1 = .ok (.istore_n 2, 1) := dec_0 oX1_matchesWithin (of61 _) rfl
theorem dX1_matchesWithin_2 : decode cX1_matchesWithin 2 = .ok (.iconst 0, 1) := dec_0 oX1_matchesWithin (of3 _) rfl
theorem dX1_matchesWithin_3 : decode cX1_matchesWithin 3 = .ok (.istore_n 3, 1) := dec_0 oX1_matchesWithin (of62 _) rfl
theorem dX1_matchesWithin_4 : decode cX1_matchesWithin 4 = .ok (.iload_n 3, 1) := dec_0 oX1_matchesWithin (of29 _) rfl
theorem dX1_matchesWithin_5 : decode cX1_matchesWithin 5 = .ok (.aload_n 0, 1) := dec_0 oX1_matchesWithin (of42 _) rfl
theorem dX1_matchesWithin_6 : decode cX1_matchesWithin 6 = .ok (.getfield 119, 3) := dec_2 oX1_matchesWithin (of180 _) 0 119 rfl rfl
theorem dX1_matchesWithin_9 : decode cX1_matchesWithin 9 = .ok (.if_icmp .ge 21, 3) := dec_s2 oX1_matchesWithin (of162 _) 0 21 rfl (sg16p rfl) rfl
theorem dX1_matchesWithin_12 : decode cX1_matchesWithin 12 = .ok (.aload_n 0, 1) := dec_0 oX1_matchesWithin (of42 _) rfl
theorem dX1_matchesWithin_13 : decode cX1_matchesWithin 13 = .ok (.iload_n 3, 1) := dec_0 oX1_matchesWithin (of29 _) rfl
theorem dX1_matchesWithin_14 : decode cX1_matchesWithin 14 = .ok (.invokevirtual 133, 3) := dec_2 oX1_matchesWithin (of182 _) 0 133 rfl rfl
theorem dX1_matchesWithin_17 : decode cX1_matchesWithin 17 = .ok (.iload_n 1, 1) := dec_0 oX1_matchesWithin (of27 _) rfl
theorem dX1_matchesWithin_18 : decode cX1_matchesWithin 18 = .ok (.if_icmp .gt 6, 3) := dec_s2 oX1_matchesWithin (of163 _) 0 6 rfl (sg16p rfl) rfl
theorem dX1_matchesWithin_21 : decode cX1_matchesWithin 21 = .ok (.iinc 2 1, 3) := dec_ii oX1_matchesWithin (of132 _) 2 1 rfl (sg8p rfl) rfl
theorem dX1_matchesWithin_24 : decode cX1_matchesWithin 24 = .ok (.iinc 3 1, 3) := dec_ii oX1_matchesWithin (of132 _) 3 1 rfl (sg8p rfl) rfl
theorem dX1_matchesWithin_27 : decode cX1_matchesWithin 27 = .ok (.goto (-23), 3) := dec_s2 oX1_matchesWithin (of167 _) 255 233 rfl (sg16n (k := 23) rfl) rfl
theorem dX1_matchesWithin_30 : decode cX1_matchesWithin 30 = .ok (.iload_n 2, 1) := dec_0 oX1_matchesWithin (of28 _) rfl
theorem dX1_matchesWithin_31 : decode cX1_matchesWithin 31 = .ok (.ireturn, 1) := dec_0 oX1_matchesWithin (of172 _) rfl
theorem dX1_placesWithin_0 : decode cX1_placesWithin 0 = .ok (.iconst 0, 1) := dec_0 oX1_placesWithin (of3 _) rfl
theorem dX1_placesWithin_1 : decode cX1_placesWithin 1 = .ok (.istore_n 3, 1) := dec_0 oX1_placesWithin (of62 _) rfl
theorem dX1_placesWithin_2 : decode cX1_placesWithin 2 = .ok (.iload_n 3, 1) := dec_0 oX1_placesWithin (of29 _) rfl
theorem dX1_placesWithin_3 : decode cX1_placesWithin 3 = .ok (.sipush 160, 3) := dec_s2 oX1_placesWithin (of17 _) 0 160 rfl (sg16p rfl) rfl
theorem dX1_placesWithin_6 : decode cX1_placesWithin 6 = .ok (.if_icmp .ge 16, 3) := dec_s2 oX1_placesWithin (of162 _) 0 16 rfl (sg16p rfl) rfl
theorem dX1_placesWithin_9 : decode cX1_placesWithin 9 = .ok (.aload_n 0, 1) := dec_0 oX1_placesWithin (of42 _) rfl
theorem dX1_placesWithin_10 : decode cX1_placesWithin 10 = .ok (.getfield 24, 3) := dec_2 oX1_placesWithin (of180 _) 0 24 rfl rfl
theorem dX1_placesWithin_13 : decode cX1_placesWithin 13 = .ok (.iload_n 3, 1) := dec_0 oX1_placesWithin (of29 _) rfl
theorem dX1_placesWithin_14 : decode cX1_placesWithin 14 = .ok (.iconst 0, 1) := dec_0 oX1_placesWithin (of3 _) rfl
theorem dX1_placesWithin_15 : decode cX1_placesWithin 15 = .ok (.bastore, 1) := dec_0 oX1_placesWithin (of84 _) rfl
theorem dX1_placesWithin_16 : decode cX1_placesWithin 16 = .ok (.iinc 3 1, 3) := dec_ii oX1_placesWithin (of132 _) 3 1 rfl (sg8p rfl) rfl
theorem dX1_placesWithin_19 : decode cX1_placesWithin 19 = .ok (.goto (-17), 3) := dec_s2 oX1_placesWithin (of167 _) 255 239 rfl (sg16n (k := 17) rfl) rfl
theorem dX1_placesWithin_22 : decode cX1_placesWithin 22 = .ok (.iconst 0, 1) := dec_0 oX1_placesWithin (of3 _) rfl
theorem dX1_placesWithin_23 : decode cX1_placesWithin 23 = .ok (.istore_n 3, 1) := dec_0 oX1_placesWithin (of62 _) rfl
theorem dX1_placesWithin_24 : decode cX1_placesWithin 24 = .ok (.iload_n 3, 1) := dec_0 oX1_placesWithin (of29 _) rfl
theorem dX1_placesWithin_25 : decode cX1_placesWithin 25 = .ok (.aload_n 0, 1) := dec_0 oX1_placesWithin (of42 _) rfl
theorem dX1_placesWithin_26 : decode cX1_placesWithin 26 = .ok (.getfield 119, 3) := dec_2 oX1_placesWithin (of180 _) 0 119 rfl rfl
theorem dX1_placesWithin_29 : decode cX1_placesWithin 29 = .ok (.if_icmp .ge 28, 3) := dec_s2 oX1_placesWithin (of162 _) 0 28 rfl (sg16p rfl) rfl
theorem dX1_placesWithin_32 : decode cX1_placesWithin 32 = .ok (.aload_n 0, 1) := dec_0 oX1_placesWithin (of42 _) rfl
theorem dX1_placesWithin_33 : decode cX1_placesWithin 33 = .ok (.iload_n 3, 1) := dec_0 oX1_placesWithin (of29 _) rfl
theorem dX1_placesWithin_34 : decode cX1_placesWithin 34 = .ok (.invokevirtual 133, 3) := dec_2 oX1_placesWithin (of182 _) 0 133 rfl rfl
theorem dX1_placesWithin_37 : decode cX1_placesWithin 37 = .ok (.iload_n 1, 1) := dec_0 oX1_placesWithin (of27 _) rfl
theorem dX1_placesWithin_38 : decode cX1_placesWithin 38 = .ok (.if_icmp .gt 13, 3) := dec_s2 oX1_placesWithin (of163 _) 0 13 rfl (sg16p rfl) rfl
theorem dX1_placesWithin_41 : decode cX1_placesWithin 41 = .ok (.aload_n 0, 1) := dec_0 oX1_placesWithin (of42 _) rfl
theorem dX1_placesWithin_42 : decode cX1_placesWithin 42 = .ok (.aload_n 0, 1) := dec_0 oX1_placesWithin (of42 _) rfl
theorem dX1_placesWithin_43 : decode cX1_placesWithin 43 = .ok (.iload_n 3, 1) := dec_0 oX1_placesWithin (of29 _) rfl
theorem dX1_placesWithin_44 : decode cX1_placesWithin 44 = .ok (.invokevirtual 136, 3) := dec_2 oX1_placesWithin (of182 _) 0 136 rfl rfl
theorem dX1_placesWithin_47 : decode cX1_placesWithin 47 = .ok (.iload_n 2, 1) := dec_0 oX1_placesWithin (of28 _) rfl
theorem dX1_placesWithin_48 : decode cX1_placesWithin 48 = .ok (.invokevirtual 139, 3) := dec_2 oX1_placesWithin (of182 _) 0 139 rfl rfl
theorem dX1_placesWithin_51 : decode cX1_placesWithin 51 = .ok (.iinc 3 1, 3) := dec_ii oX1_placesWithin (of132 _) 3 1 rfl (sg8p rfl) rfl
theorem dX1_placesWithin_54 : decode cX1_placesWithin 54 = .ok (.goto (-30), 3) := dec_s2 oX1_placesWithin (of167 _) 255 226 rfl (sg16n (k := 30) rfl) rfl
theorem dX1_placesWithin_57 : decode cX1_placesWithin 57 = .ok (.iconst 0, 1) := dec_0 oX1_placesWithin (of3 _) rfl
theorem dX1_placesWithin_58 : decode cX1_placesWithin 58 = .ok (.istore_n 3, 1) := dec_0 oX1_placesWithin (of62 _) rfl
theorem dX1_placesWithin_59 : decode cX1_placesWithin 59 = .ok (.iconst 0, 1) := dec_0 oX1_placesWithin (of3 _) rfl
theorem dX1_placesWithin_60 : decode cX1_placesWithin 60 = .ok (.istore 4, 2) := dec_1 oX1_placesWithin (of54 _) 4 rfl rfl
theorem dX1_placesWithin_62 : decode cX1_placesWithin 62 = .ok (.iload 4, 2) := dec_1 oX1_placesWithin (of21 _) 4 rfl rfl
theorem dX1_placesWithin_64 : decode cX1_placesWithin 64 = .ok (.sipush 160, 3) := dec_s2 oX1_placesWithin (of17 _) 0 160 rfl (sg16p rfl) rfl
theorem dX1_placesWithin_67 : decode cX1_placesWithin 67 = .ok (.if_icmp .ge 22, 3) := dec_s2 oX1_placesWithin (of162 _) 0 22 rfl (sg16p rfl) rfl
theorem dX1_placesWithin_70 : decode cX1_placesWithin 70 = .ok (.aload_n 0, 1) := dec_0 oX1_placesWithin (of42 _) rfl
theorem dX1_placesWithin_71 : decode cX1_placesWithin 71 = .ok (.getfield 24, 3) := dec_2 oX1_placesWithin (of180 _) 0 24 rfl rfl
theorem dX1_placesWithin_74 : decode cX1_placesWithin 74 = .ok (.iload 4, 2) := dec_1 oX1_placesWithin (of21 _) 4 rfl rfl
theorem dX1_placesWithin_76 : decode cX1_placesWithin 76 = .ok (.baload, 1) := dec_0 oX1_placesWithin (of51 _) rfl
theorem dX1_placesWithin_77 : decode cX1_placesWithin 77 = .ok (.ifCond .eq 6, 3) := dec_s2 oX1_placesWithin (of153 _) 0 6 rfl (sg16p rfl) rfl
theorem dX1_placesWithin_80 : decode cX1_placesWithin 80 = .ok (.iinc 3 1, 3) := dec_ii oX1_placesWithin (of132 _) 3 1 rfl (sg8p rfl) rfl
theorem dX1_placesWithin_83 : decode cX1_placesWithin 83 = .ok (.iinc 4 1, 3) := dec_ii oX1_placesWithin (of132 _) 4 1 rfl (sg8p rfl) rfl
theorem dX1_placesWithin_86 : decode cX1_placesWithin 86 = .ok (.goto (-24), 3) := dec_s2 oX1_placesWithin (of167 _) 255 232 rfl (sg16n (k := 24) rfl) rfl
theorem dX1_placesWithin_89 : decode cX1_placesWithin 89 = .ok (.iload_n 3, 1) := dec_0 oX1_placesWithin (of29 _) rfl
theorem dX1_placesWithin_90 : decode cX1_placesWithin 90 = .ok (.ireturn, 1) := dec_0 oX1_placesWithin (of172 _) rfl
theorem dX1_coverFrom_0 : decode cX1_coverFrom 0 = .ok (.iconst 0, 1) := dec_0 oX1_coverFrom (of3 _) rfl
theorem dX1_coverFrom_1 : decode cX1_coverFrom 1 = .ok (.istore_n 3, 1) := dec_0 oX1_coverFrom (of62 _) rfl
theorem dX1_coverFrom_2 : decode cX1_coverFrom 2 = .ok (.iload_n 3, 1) := dec_0 oX1_coverFrom (of29 _) rfl
theorem dX1_coverFrom_3 : decode cX1_coverFrom 3 = .ok (.iload_n 2, 1) := dec_0 oX1_coverFrom (of28 _) rfl
theorem dX1_coverFrom_4 : decode cX1_coverFrom 4 = .ok (.if_icmp .ge 35, 3) := dec_s2 oX1_coverFrom (of162 _) 0 35 rfl (sg16p rfl) rfl
theorem dX1_coverFrom_7 : decode cX1_coverFrom 7 = .ok (.iload_n 1, 1) := dec_0 oX1_coverFrom (of27 _) rfl
theorem dX1_coverFrom_8 : decode cX1_coverFrom 8 = .ok (.iload_n 3, 1) := dec_0 oX1_coverFrom (of29 _) rfl
theorem dX1_coverFrom_9 : decode cX1_coverFrom 9 = .ok (.iadd, 1) := dec_0 oX1_coverFrom (of96 _) rfl
theorem dX1_coverFrom_10 : decode cX1_coverFrom 10 = .ok (.istore 4, 2) := dec_1 oX1_coverFrom (of54 _) 4 rfl rfl
theorem dX1_coverFrom_12 : decode cX1_coverFrom 12 = .ok (.iload 4, 2) := dec_1 oX1_coverFrom (of21 _) 4 rfl rfl
theorem dX1_coverFrom_14 : decode cX1_coverFrom 14 = .ok (.ifCond .lt 19, 3) := dec_s2 oX1_coverFrom (of155 _) 0 19 rfl (sg16p rfl) rfl
theorem dX1_coverFrom_17 : decode cX1_coverFrom 17 = .ok (.iload 4, 2) := dec_1 oX1_coverFrom (of21 _) 4 rfl rfl
theorem dX1_coverFrom_19 : decode cX1_coverFrom 19 = .ok (.sipush 160, 3) := dec_s2 oX1_coverFrom (of17 _) 0 160 rfl (sg16p rfl) rfl
theorem dX1_coverFrom_22 : decode cX1_coverFrom 22 = .ok (.if_icmp .ge 11, 3) := dec_s2 oX1_coverFrom (of162 _) 0 11 rfl (sg16p rfl) rfl
theorem dX1_coverFrom_25 : decode cX1_coverFrom 25 = .ok (.aload_n 0, 1) := dec_0 oX1_coverFrom (of42 _) rfl
theorem dX1_coverFrom_26 : decode cX1_coverFrom 26 = .ok (.getfield 24, 3) := dec_2 oX1_coverFrom (of180 _) 0 24 rfl rfl
theorem dX1_coverFrom_29 : decode cX1_coverFrom 29 = .ok (.iload 4, 2) := dec_1 oX1_coverFrom (of21 _) 4 rfl rfl
theorem dX1_coverFrom_31 : decode cX1_coverFrom 31 = .ok (.iconst 1, 1) := dec_0 oX1_coverFrom (of4 _) rfl
theorem dX1_coverFrom_32 : decode cX1_coverFrom 32 = .ok (.bastore, 1) := dec_0 oX1_coverFrom (of84 _) rfl
theorem dX1_coverFrom_33 : decode cX1_coverFrom 33 = .ok (.iinc 3 1, 3) := dec_ii oX1_coverFrom (of132 _) 3 1 rfl (sg8p rfl) rfl
theorem dX1_coverFrom_36 : decode cX1_coverFrom 36 = .ok (.goto (-34), 3) := dec_s2 oX1_coverFrom (of167 _) 255 222 rfl (sg16n (k := 34) rfl) rfl
theorem dX1_coverFrom_39 : decode cX1_coverFrom 39 = .ok (.return_, 1) := dec_0 oX1_coverFrom (of177 _) rfl
theorem dX1_rankOf_0 : decode cX1_rankOf 0 = .ok (.aload_n 0, 1) := dec_0 oX1_rankOf (of42 _) rfl
theorem dX1_rankOf_1 : decode cX1_rankOf 1 = .ok (.iload_n 1, 1) := dec_0 oX1_rankOf (of27 _) rfl
theorem dX1_rankOf_2 : decode cX1_rankOf 2 = .ok (.invokevirtual 142, 3) := dec_2 oX1_rankOf (of182 _) 0 142 rfl rfl
theorem dX1_rankOf_5 : decode cX1_rankOf 5 = .ok (.istore_n 2, 1) := dec_0 oX1_rankOf (of61 _) rfl
theorem dX1_rankOf_6 : decode cX1_rankOf 6 = .ok (.iconst 0, 1) := dec_0 oX1_rankOf (of3 _) rfl
theorem dX1_rankOf_7 : decode cX1_rankOf 7 = .ok (.istore_n 3, 1) := dec_0 oX1_rankOf (of62 _) rfl
theorem dX1_rankOf_8 : decode cX1_rankOf 8 = .ok (.iconst 0, 1) := dec_0 oX1_rankOf (of3 _) rfl
theorem dX1_rankOf_9 : decode cX1_rankOf 9 = .ok (.istore 4, 2) := dec_1 oX1_rankOf (of54 _) 4 rfl rfl
theorem dX1_rankOf_11 : decode cX1_rankOf 11 = .ok (.iload 4, 2) := dec_1 oX1_rankOf (of21 _) 4 rfl rfl
theorem dX1_rankOf_13 : decode cX1_rankOf 13 = .ok (.sipush 160, 3) := dec_s2 oX1_rankOf (of17 _) 0 160 rfl (sg16p rfl) rfl
theorem dX1_rankOf_16 : decode cX1_rankOf 16 = .ok (.if_icmp .ge 44, 3) := dec_s2 oX1_rankOf (of162 _) 0 44 rfl (sg16p rfl) rfl
theorem dX1_rankOf_19 : decode cX1_rankOf 19 = .ok (.aload_n 0, 1) := dec_0 oX1_rankOf (of42 _) rfl
theorem dX1_rankOf_20 : decode cX1_rankOf 20 = .ok (.getfield 15, 3) := dec_2 oX1_rankOf (of180 _) 0 15 rfl rfl
theorem dX1_rankOf_23 : decode cX1_rankOf 23 = .ok (.iload 4, 2) := dec_1 oX1_rankOf (of21 _) 4 rfl rfl
theorem dX1_rankOf_25 : decode cX1_rankOf 25 = .ok (.iaload, 1) := dec_0 oX1_rankOf (of46 _) rfl
theorem dX1_rankOf_26 : decode cX1_rankOf 26 = .ok (.istore 5, 2) := dec_1 oX1_rankOf (of54 _) 5 rfl rfl
theorem dX1_rankOf_28 : decode cX1_rankOf 28 = .ok (.iload 5, 2) := dec_1 oX1_rankOf (of21 _) 5 rfl rfl
theorem dX1_rankOf_30 : decode cX1_rankOf 30 = .ok (.ifCond .lt 24, 3) := dec_s2 oX1_rankOf (of155 _) 0 24 rfl (sg16p rfl) rfl
theorem dX1_rankOf_33 : decode cX1_rankOf 33 = .ok (.iload 5, 2) := dec_1 oX1_rankOf (of21 _) 5 rfl rfl
theorem dX1_rankOf_35 : decode cX1_rankOf 35 = .ok (.iload_n 2, 1) := dec_0 oX1_rankOf (of28 _) rfl
theorem dX1_rankOf_36 : decode cX1_rankOf 36 = .ok (.if_icmp .lt 15, 3) := dec_s2 oX1_rankOf (of161 _) 0 15 rfl (sg16p rfl) rfl
theorem dX1_rankOf_39 : decode cX1_rankOf 39 = .ok (.iload 5, 2) := dec_1 oX1_rankOf (of21 _) 5 rfl rfl
theorem dX1_rankOf_41 : decode cX1_rankOf 41 = .ok (.iload_n 2, 1) := dec_0 oX1_rankOf (of28 _) rfl
theorem dX1_rankOf_42 : decode cX1_rankOf 42 = .ok (.if_icmp .ne 12, 3) := dec_s2 oX1_rankOf (of160 _) 0 12 rfl (sg16p rfl) rfl
theorem dX1_rankOf_45 : decode cX1_rankOf 45 = .ok (.iload 4, 2) := dec_1 oX1_rankOf (of21 _) 4 rfl rfl
theorem dX1_rankOf_47 : decode cX1_rankOf 47 = .ok (.iload_n 1, 1) := dec_0 oX1_rankOf (of27 _) rfl
theorem dX1_rankOf_48 : decode cX1_rankOf 48 = .ok (.if_icmp .ge 6, 3) := dec_s2 oX1_rankOf (of162 _) 0 6 rfl (sg16p rfl) rfl
theorem dX1_rankOf_51 : decode cX1_rankOf 51 = .ok (.iinc 3 1, 3) := dec_ii oX1_rankOf (of132 _) 3 1 rfl (sg8p rfl) rfl
theorem dX1_rankOf_54 : decode cX1_rankOf 54 = .ok (.iinc 4 1, 3) := dec_ii oX1_rankOf (of132 _) 4 1 rfl (sg8p rfl) rfl
theorem dX1_rankOf_57 : decode cX1_rankOf 57 = .ok (.goto (-46), 3) := dec_s2 oX1_rankOf (of167 _) 255 210 rfl (sg16n (k := 46) rfl) rfl
theorem dX1_rankOf_60 : decode cX1_rankOf 60 = .ok (.iload_n 3, 1) := dec_0 oX1_rankOf (of29 _) rfl
theorem dX1_rankOf_61 : decode cX1_rankOf 61 = .ok (.ireturn, 1) := dec_0 oX1_rankOf (of172 _) rfl
theorem dX1_windowOfRank_0 : decode cX1_windowOfRank 0 = .ok (.iconst 0, 1) := dec_0 oX1_windowOfRank (of3 _) rfl
theorem dX1_windowOfRank_1 : decode cX1_windowOfRank 1 = .ok (.istore_n 2, 1) := dec_0 oX1_windowOfRank (of61 _) rfl
theorem dX1_windowOfRank_2 : decode cX1_windowOfRank 2 = .ok (.iload_n 2, 1) := dec_0 oX1_windowOfRank (of28 _) rfl
theorem dX1_windowOfRank_3 : decode cX1_windowOfRank 3 = .ok (.sipush 160, 3) := dec_s2 oX1_windowOfRank (of17 _) 0 160 rfl (sg16p rfl) rfl
theorem dX1_windowOfRank_6 : decode cX1_windowOfRank 6 = .ok (.if_icmp .ge 29, 3) := dec_s2 oX1_windowOfRank (of162 _) 0 29 rfl (sg16p rfl) rfl
theorem dX1_windowOfRank_9 : decode cX1_windowOfRank 9 = .ok (.aload_n 0, 1) := dec_0 oX1_windowOfRank (of42 _) rfl
theorem dX1_windowOfRank_10 : decode cX1_windowOfRank 10 = .ok (.getfield 15, 3) := dec_2 oX1_windowOfRank (of180 _) 0 15 rfl rfl
theorem dX1_windowOfRank_13 : decode cX1_windowOfRank 13 = .ok (.iload_n 2, 1) := dec_0 oX1_windowOfRank (of28 _) rfl
theorem dX1_windowOfRank_14 : decode cX1_windowOfRank 14 = .ok (.iaload, 1) := dec_0 oX1_windowOfRank (of46 _) rfl
theorem dX1_windowOfRank_15 : decode cX1_windowOfRank 15 = .ok (.ifCond .lt 14, 3) := dec_s2 oX1_windowOfRank (of155 _) 0 14 rfl (sg16p rfl) rfl
theorem dX1_windowOfRank_18 : decode cX1_windowOfRank 18 = .ok (.aload_n 0, 1) := dec_0 oX1_windowOfRank (of42 _) rfl
theorem dX1_windowOfRank_19 : decode cX1_windowOfRank 19 = .ok (.iload_n 2, 1) := dec_0 oX1_windowOfRank (of28 _) rfl
theorem dX1_windowOfRank_20 : decode cX1_windowOfRank 20 = .ok (.invokevirtual 145, 3) := dec_2 oX1_windowOfRank (of182 _) 0 145 rfl rfl
theorem dX1_windowOfRank_23 : decode cX1_windowOfRank 23 = .ok (.iload_n 1, 1) := dec_0 oX1_windowOfRank (of27 _) rfl
theorem dX1_windowOfRank_24 : decode cX1_windowOfRank 24 = .ok (.if_icmp .ne 5, 3) := dec_s2 oX1_windowOfRank (of160 _) 0 5 rfl (sg16p rfl) rfl
theorem dX1_windowOfRank_27 : decode cX1_windowOfRank 27 = .ok (.iload_n 2, 1) := dec_0 oX1_windowOfRank (of28 _) rfl
theorem dX1_windowOfRank_28 : decode cX1_windowOfRank 28 = .ok (.ireturn, 1) := dec_0 oX1_windowOfRank (of172 _) rfl
theorem dX1_windowOfRank_29 : decode cX1_windowOfRank 29 = .ok (.iinc 2 1, 3) := dec_ii oX1_windowOfRank (of132 _) 2 1 rfl (sg8p rfl) rfl
theorem dX1_windowOfRank_32 : decode cX1_windowOfRank 32 = .ok (.goto (-30), 3) := dec_s2 oX1_windowOfRank (of167 _) 255 226 rfl (sg16n (k := 30) rfl) rfl
theorem dX1_windowOfRank_35 : decode cX1_windowOfRank 35 = .ok (.bipush (-2), 2) := dec_s1 oX1_windowOfRank (of16 _) 254 rfl (sg8n (k := 2) rfl) rfl
theorem dX1_windowOfRank_37 : decode cX1_windowOfRank 37 = .ok (.ireturn, 1) := dec_0 oX1_windowOfRank (of172 _) rfl
theorem dX1_turnCount_0 : decode cX1_turnCount 0 = .ok (.iconst 0, 1) := dec_0 oX1_turnCount (of3 _) rfl
theorem dX1_turnCount_1 : decode cX1_turnCount 1 = .ok (.istore_n 1, 1) := dec_0 oX1_turnCount (of60 _) rfl
theorem dX1_turnCount_2 : decode cX1_turnCount 2 = .ok (.iconst (-1), 1) := dec_0 oX1_turnCount (of2 _) rfl
theorem dX1_turnCount_3 : decode cX1_turnCount 3 = .ok (.istore_n 2, 1) := dec_0 oX1_turnCount (of61 _) rfl
theorem dX1_turnCount_4 : decode cX1_turnCount 4 = .ok (.iconst 0, 1) := dec_0 oX1_turnCount (of3 _) rfl
theorem dX1_turnCount_5 : decode cX1_turnCount 5 = .ok (.istore_n 3, 1) := dec_0 oX1_turnCount (of62 _) rfl
theorem dX1_turnCount_6 : decode cX1_turnCount 6 = .ok (.iconst 0, 1) := dec_0 oX1_turnCount (of3 _) rfl
theorem dX1_turnCount_7 : decode cX1_turnCount 7 = .ok (.istore 4, 2) := dec_1 oX1_turnCount (of54 _) 4 rfl rfl
theorem dX1_turnCount_9 : decode cX1_turnCount 9 = .ok (.iload 4, 2) := dec_1 oX1_turnCount (of21 _) 4 rfl rfl
theorem dX1_turnCount_11 : decode cX1_turnCount 11 = .ok (.sipush 160, 3) := dec_s2 oX1_turnCount (of17 _) 0 160 rfl (sg16p rfl) rfl
theorem dX1_turnCount_14 : decode cX1_turnCount 14 = .ok (.if_icmp .ge 68, 3) := dec_s2 oX1_turnCount (of162 _) 0 68 rfl (sg16p rfl) rfl
theorem dX1_turnCount_17 : decode cX1_turnCount 17 = .ok (.aload_n 0, 1) := dec_0 oX1_turnCount (of42 _) rfl
theorem dX1_turnCount_18 : decode cX1_turnCount 18 = .ok (.getfield 15, 3) := dec_2 oX1_turnCount (of180 _) 0 15 rfl rfl
theorem dX1_turnCount_21 : decode cX1_turnCount 21 = .ok (.iload 4, 2) := dec_1 oX1_turnCount (of21 _) 4 rfl rfl
theorem dX1_turnCount_23 : decode cX1_turnCount 23 = .ok (.iaload, 1) := dec_0 oX1_turnCount (of46 _) rfl
theorem dX1_turnCount_24 : decode cX1_turnCount 24 = .ok (.istore 5, 2) := dec_1 oX1_turnCount (of54 _) 5 rfl rfl
theorem dX1_turnCount_26 : decode cX1_turnCount 26 = .ok (.iload 5, 2) := dec_1 oX1_turnCount (of21 _) 5 rfl rfl
theorem dX1_turnCount_28 : decode cX1_turnCount 28 = .ok (.ifCond .ge 6, 3) := dec_s2 oX1_turnCount (of156 _) 0 6 rfl (sg16p rfl) rfl
theorem dX1_turnCount_31 : decode cX1_turnCount 31 = .ok (.goto 45, 3) := dec_s2 oX1_turnCount (of167 _) 0 45 rfl (sg16p rfl) rfl
theorem dX1_turnCount_34 : decode cX1_turnCount 34 = .ok (.iload_n 2, 1) := dec_0 oX1_turnCount (of28 _) rfl
theorem dX1_turnCount_35 : decode cX1_turnCount 35 = .ok (.ifCond .lt 14, 3) := dec_s2 oX1_turnCount (of155 _) 0 14 rfl (sg16p rfl) rfl
theorem dX1_turnCount_38 : decode cX1_turnCount 38 = .ok (.iload 5, 2) := dec_1 oX1_turnCount (of21 _) 5 rfl rfl
theorem dX1_turnCount_40 : decode cX1_turnCount 40 = .ok (.iload_n 2, 1) := dec_0 oX1_turnCount (of28 _) rfl
theorem dX1_turnCount_41 : decode cX1_turnCount 41 = .ok (.if_icmp .ge 8, 3) := dec_s2 oX1_turnCount (of162 _) 0 8 rfl (sg16p rfl) rfl
theorem dX1_turnCount_44 : decode cX1_turnCount 44 = .ok (.iconst 1, 1) := dec_0 oX1_turnCount (of4 _) rfl
theorem dX1_turnCount_45 : decode cX1_turnCount 45 = .ok (.istore_n 3, 1) := dec_0 oX1_turnCount (of62 _) rfl
theorem dX1_turnCount_46 : decode cX1_turnCount 46 = .ok (.goto 27, 3) := dec_s2 oX1_turnCount (of167 _) 0 27 rfl (sg16p rfl) rfl
theorem dX1_turnCount_49 : decode cX1_turnCount 49 = .ok (.iload_n 2, 1) := dec_0 oX1_turnCount (of28 _) rfl
theorem dX1_turnCount_50 : decode cX1_turnCount 50 = .ok (.ifCond .lt 23, 3) := dec_s2 oX1_turnCount (of155 _) 0 23 rfl (sg16p rfl) rfl
theorem dX1_turnCount_53 : decode cX1_turnCount 53 = .ok (.iload 5, 2) := dec_1 oX1_turnCount (of21 _) 5 rfl rfl
theorem dX1_turnCount_55 : decode cX1_turnCount 55 = .ok (.iload_n 2, 1) := dec_0 oX1_turnCount (of28 _) rfl
theorem dX1_turnCount_56 : decode cX1_turnCount 56 = .ok (.if_icmp .le 17, 3) := dec_s2 oX1_turnCount (of164 _) 0 17 rfl (sg16p rfl) rfl
theorem dX1_turnCount_59 : decode cX1_turnCount 59 = .ok (.iload_n 1, 1) := dec_0 oX1_turnCount (of27 _) rfl
theorem dX1_turnCount_60 : decode cX1_turnCount 60 = .ok (.iload_n 3, 1) := dec_0 oX1_turnCount (of29 _) rfl
theorem dX1_turnCount_61 : decode cX1_turnCount 61 = .ok (.ifCond .eq 7, 3) := dec_s2 oX1_turnCount (of153 _) 0 7 rfl (sg16p rfl) rfl
theorem dX1_turnCount_64 : decode cX1_turnCount 64 = .ok (.iconst 1, 1) := dec_0 oX1_turnCount (of4 _) rfl
theorem dX1_turnCount_65 : decode cX1_turnCount 65 = .ok (.goto 4, 3) := dec_s2 oX1_turnCount (of167 _) 0 4 rfl (sg16p rfl) rfl
theorem dX1_turnCount_68 : decode cX1_turnCount 68 = .ok (.iconst 0, 1) := dec_0 oX1_turnCount (of3 _) rfl
theorem dX1_turnCount_69 : decode cX1_turnCount 69 = .ok (.iadd, 1) := dec_0 oX1_turnCount (of96 _) rfl
theorem dX1_turnCount_70 : decode cX1_turnCount 70 = .ok (.istore_n 1, 1) := dec_0 oX1_turnCount (of60 _) rfl
theorem dX1_turnCount_71 : decode cX1_turnCount 71 = .ok (.iconst 0, 1) := dec_0 oX1_turnCount (of3 _) rfl
theorem dX1_turnCount_72 : decode cX1_turnCount 72 = .ok (.istore_n 3, 1) := dec_0 oX1_turnCount (of62 _) rfl
theorem dX1_turnCount_73 : decode cX1_turnCount 73 = .ok (.iload 5, 2) := dec_1 oX1_turnCount (of21 _) 5 rfl rfl
theorem dX1_turnCount_75 : decode cX1_turnCount 75 = .ok (.istore_n 2, 1) := dec_0 oX1_turnCount (of61 _) rfl
theorem dX1_turnCount_76 : decode cX1_turnCount 76 = .ok (.iinc 4 1, 3) := dec_ii oX1_turnCount (of132 _) 4 1 rfl (sg8p rfl) rfl
theorem dX1_turnCount_79 : decode cX1_turnCount 79 = .ok (.goto (-70), 3) := dec_s2 oX1_turnCount (of167 _) 255 186 rfl (sg16n (k := 70) rfl) rfl
theorem dX1_turnCount_82 : decode cX1_turnCount 82 = .ok (.iload_n 1, 1) := dec_0 oX1_turnCount (of27 _) rfl
theorem dX1_turnCount_83 : decode cX1_turnCount 83 = .ok (.ireturn, 1) := dec_0 oX1_turnCount (of172 _) rfl
theorem dX1_slackSum_0 : decode cX1_slackSum 0 = .ok (.iconst 0, 1) := dec_0 oX1_slackSum (of3 _) rfl
theorem dX1_slackSum_1 : decode cX1_slackSum 1 = .ok (.istore_n 2, 1) := dec_0 oX1_slackSum (of61 _) rfl
theorem dX1_slackSum_2 : decode cX1_slackSum 2 = .ok (.aload_n 0, 1) := dec_0 oX1_slackSum (of42 _) rfl
theorem dX1_slackSum_3 : decode cX1_slackSum 3 = .ok (.getfield 28, 3) := dec_2 oX1_slackSum (of180 _) 0 28 rfl rfl
theorem dX1_slackSum_6 : decode cX1_slackSum 6 = .ok (.iload_n 1, 1) := dec_0 oX1_slackSum (of27 _) rfl
theorem dX1_slackSum_7 : decode cX1_slackSum 7 = .ok (.aload_n 0, 1) := dec_0 oX1_slackSum (of42 _) rfl
theorem dX1_slackSum_8 : decode cX1_slackSum 8 = .ok (.getfield 28, 3) := dec_2 oX1_slackSum (of180 _) 0 28 rfl rfl
theorem dX1_slackSum_11 : decode cX1_slackSum 11 = .ok (.getfield 45, 3) := dec_2 oX1_slackSum (of180 _) 0 45 rfl rfl
theorem dX1_slackSum_14 : decode cX1_slackSum 14 = .ok (.iconst 0, 1) := dec_0 oX1_slackSum (of3 _) rfl
theorem dX1_slackSum_15 : decode cX1_slackSum 15 = .ok (.invokevirtual 49, 3) := dec_2 oX1_slackSum (of182 _) 0 49 rfl rfl
theorem dX1_slackSum_18 : decode cX1_slackSum 18 = .ok (.invokevirtual 55, 3) := dec_2 oX1_slackSum (of182 _) 0 55 rfl rfl
theorem dX1_slackSum_21 : decode cX1_slackSum 21 = .ok (.iconst 0, 1) := dec_0 oX1_slackSum (of3 _) rfl
theorem dX1_slackSum_22 : decode cX1_slackSum 22 = .ok (.istore_n 3, 1) := dec_0 oX1_slackSum (of62 _) rfl
theorem dX1_slackSum_23 : decode cX1_slackSum 23 = .ok (.iload_n 3, 1) := dec_0 oX1_slackSum (of29 _) rfl
theorem dX1_slackSum_24 : decode cX1_slackSum 24 = .ok (.aload_n 0, 1) := dec_0 oX1_slackSum (of42 _) rfl
theorem dX1_slackSum_25 : decode cX1_slackSum 25 = .ok (.getfield 38, 3) := dec_2 oX1_slackSum (of180 _) 0 38 rfl rfl
theorem dX1_slackSum_28 : decode cX1_slackSum 28 = .ok (.getfield 59, 3) := dec_2 oX1_slackSum (of180 _) 0 59 rfl rfl
theorem dX1_slackSum_31 : decode cX1_slackSum 31 = .ok (.if_icmp .ge 79, 3) := dec_s2 oX1_slackSum (of162 _) 0 79 rfl (sg16p rfl) rfl
theorem dX1_slackSum_34 : decode cX1_slackSum 34 = .ok (.aload_n 0, 1) := dec_0 oX1_slackSum (of42 _) rfl
theorem dX1_slackSum_35 : decode cX1_slackSum 35 = .ok (.getfield 38, 3) := dec_2 oX1_slackSum (of180 _) 0 38 rfl rfl
theorem dX1_slackSum_38 : decode cX1_slackSum 38 = .ok (.iload_n 3, 1) := dec_0 oX1_slackSum (of29 _) rfl
theorem dX1_slackSum_39 : decode cX1_slackSum 39 = .ok (.aload_n 0, 1) := dec_0 oX1_slackSum (of42 _) rfl
theorem dX1_slackSum_40 : decode cX1_slackSum 40 = .ok (.getfield 43, 3) := dec_2 oX1_slackSum (of180 _) 0 43 rfl rfl
theorem dX1_slackSum_43 : decode cX1_slackSum 43 = .ok (.iload_n 1, 1) := dec_0 oX1_slackSum (of27 _) rfl
theorem dX1_slackSum_44 : decode cX1_slackSum 44 = .ok (.invokevirtual 65, 3) := dec_2 oX1_slackSum (of182 _) 0 65 rfl rfl
theorem dX1_slackSum_47 : decode cX1_slackSum 47 = .ok (.invokevirtual 70, 3) := dec_2 oX1_slackSum (of182 _) 0 70 rfl rfl
theorem dX1_slackSum_50 : decode cX1_slackSum 50 = .ok (.ifCond .eq 54, 3) := dec_s2 oX1_slackSum (of153 _) 0 54 rfl (sg16p rfl) rfl
theorem dX1_slackSum_53 : decode cX1_slackSum 53 = .ok (.aload_n 0, 1) := dec_0 oX1_slackSum (of42 _) rfl
theorem dX1_slackSum_54 : decode cX1_slackSum 54 = .ok (.getfield 28, 3) := dec_2 oX1_slackSum (of180 _) 0 28 rfl rfl
theorem dX1_slackSum_57 : decode cX1_slackSum 57 = .ok (.iload_n 3, 1) := dec_0 oX1_slackSum (of29 _) rfl
theorem dX1_slackSum_58 : decode cX1_slackSum 58 = .ok (.invokevirtual 74, 3) := dec_2 oX1_slackSum (of182 _) 0 74 rfl rfl
theorem dX1_slackSum_61 : decode cX1_slackSum 61 = .ok (.aload_n 0, 1) := dec_0 oX1_slackSum (of42 _) rfl
theorem dX1_slackSum_62 : decode cX1_slackSum 62 = .ok (.getfield 28, 3) := dec_2 oX1_slackSum (of180 _) 0 28 rfl rfl
theorem dX1_slackSum_65 : decode cX1_slackSum 65 = .ok (.getfield 78, 3) := dec_2 oX1_slackSum (of180 _) 0 78 rfl rfl
theorem dX1_slackSum_68 : decode cX1_slackSum 68 = .ok (.astore 4, 2) := dec_1 oX1_slackSum (of58 _) 4 rfl rfl
theorem dX1_slackSum_70 : decode cX1_slackSum 70 = .ok (.aload 4, 2) := dec_1 oX1_slackSum (of25 _) 4 rfl rfl
theorem dX1_slackSum_72 : decode cX1_slackSum 72 = .ok (.invokevirtual 148, 3) := dec_2 oX1_slackSum (of182 _) 0 148 rfl rfl
theorem dX1_slackSum_75 : decode cX1_slackSum 75 = .ok (.aload 4, 2) := dec_1 oX1_slackSum (of25 _) 4 rfl rfl
theorem dX1_slackSum_77 : decode cX1_slackSum 77 = .ok (.invokevirtual 151, 3) := dec_2 oX1_slackSum (of182 _) 0 151 rfl rfl
theorem dX1_slackSum_80 : decode cX1_slackSum 80 = .ok (.aload 4, 2) := dec_1 oX1_slackSum (of25 _) 4 rfl rfl
theorem dX1_slackSum_82 : decode cX1_slackSum 82 = .ok (.invokevirtual 154, 3) := dec_2 oX1_slackSum (of182 _) 0 154 rfl rfl
theorem dX1_slackSum_85 : decode cX1_slackSum 85 = .ok (.invokestatic 157, 3) := dec_2 oX1_slackSum (of184 _) 0 157 rfl rfl
theorem dX1_slackSum_88 : decode cX1_slackSum 88 = .ok (.invokestatic 157, 3) := dec_2 oX1_slackSum (of184 _) 0 157 rfl rfl
theorem dX1_slackSum_91 : decode cX1_slackSum 91 = .ok (.istore 5, 2) := dec_1 oX1_slackSum (of54 _) 5 rfl rfl
theorem dX1_slackSum_93 : decode cX1_slackSum 93 = .ok (.iload_n 2, 1) := dec_0 oX1_slackSum (of28 _) rfl
theorem dX1_slackSum_94 : decode cX1_slackSum 94 = .ok (.aload 4, 2) := dec_1 oX1_slackSum (of25 _) 4 rfl rfl
theorem dX1_slackSum_96 : decode cX1_slackSum 96 = .ok (.invokevirtual 113, 3) := dec_2 oX1_slackSum (of182 _) 0 113 rfl rfl
theorem dX1_slackSum_99 : decode cX1_slackSum 99 = .ok (.iload 5, 2) := dec_1 oX1_slackSum (of21 _) 5 rfl rfl
theorem dX1_slackSum_101 : decode cX1_slackSum 101 = .ok (.isub, 1) := dec_0 oX1_slackSum (of100 _) rfl
theorem dX1_slackSum_102 : decode cX1_slackSum 102 = .ok (.iadd, 1) := dec_0 oX1_slackSum (of96 _) rfl
theorem dX1_slackSum_103 : decode cX1_slackSum 103 = .ok (.istore_n 2, 1) := dec_0 oX1_slackSum (of61 _) rfl
theorem dX1_slackSum_104 : decode cX1_slackSum 104 = .ok (.iinc 3 1, 3) := dec_ii oX1_slackSum (of132 _) 3 1 rfl (sg8p rfl) rfl
theorem dX1_slackSum_107 : decode cX1_slackSum 107 = .ok (.goto (-84), 3) := dec_s2 oX1_slackSum (of167 _) 255 172 rfl (sg16n (k := 84) rfl) rfl
theorem dX1_slackSum_110 : decode cX1_slackSum 110 = .ok (.iload_n 2, 1) := dec_0 oX1_slackSum (of28 _) rfl
theorem dX1_slackSum_111 : decode cX1_slackSum 111 = .ok (.ireturn, 1) := dec_0 oX1_slackSum (of172 _) rfl
theorem dX1_nearestQuery_0 : decode cX1_nearestQuery 0 = .ok (.bipush (-2), 2) := dec_s1 oX1_nearestQuery (of16 _) 254 rfl (sg8n (k := 2) rfl) rfl
theorem dX1_nearestQuery_2 : decode cX1_nearestQuery 2 = .ok (.istore_n 3, 1) := dec_0 oX1_nearestQuery (of62 _) rfl
theorem dX1_nearestQuery_3 : decode cX1_nearestQuery 3 = .ok (.ldc 44, 2) := dec_1 oX1_nearestQuery (of18 _) 44 rfl rfl
theorem dX1_nearestQuery_5 : decode cX1_nearestQuery 5 = .ok (.istore 4, 2) := dec_1 oX1_nearestQuery (of54 _) 4 rfl rfl
theorem dX1_nearestQuery_7 : decode cX1_nearestQuery 7 = .ok (.iconst 0, 1) := dec_0 oX1_nearestQuery (of3 _) rfl
theorem dX1_nearestQuery_8 : decode cX1_nearestQuery 8 = .ok (.istore 5, 2) := dec_1 oX1_nearestQuery (of54 _) 5 rfl rfl
theorem dX1_nearestQuery_10 : decode cX1_nearestQuery 10 = .ok (.iload 5, 2) := dec_1 oX1_nearestQuery (of21 _) 5 rfl rfl
theorem dX1_nearestQuery_12 : decode cX1_nearestQuery 12 = .ok (.aload_n 0, 1) := dec_0 oX1_nearestQuery (of42 _) rfl
theorem dX1_nearestQuery_13 : decode cX1_nearestQuery 13 = .ok (.getfield 43, 3) := dec_2 oX1_nearestQuery (of180 _) 0 43 rfl rfl
theorem dX1_nearestQuery_16 : decode cX1_nearestQuery 16 = .ok (.getfield 161, 3) := dec_2 oX1_nearestQuery (of180 _) 0 161 rfl rfl
theorem dX1_nearestQuery_19 : decode cX1_nearestQuery 19 = .ok (.if_icmp .ge 61, 3) := dec_s2 oX1_nearestQuery (of162 _) 0 61 rfl (sg16p rfl) rfl
theorem dX1_nearestQuery_22 : decode cX1_nearestQuery 22 = .ok (.aload_n 0, 1) := dec_0 oX1_nearestQuery (of42 _) rfl
theorem dX1_nearestQuery_23 : decode cX1_nearestQuery 23 = .ok (.getfield 43, 3) := dec_2 oX1_nearestQuery (of180 _) 0 43 rfl rfl
theorem dX1_nearestQuery_26 : decode cX1_nearestQuery 26 = .ok (.iload 5, 2) := dec_1 oX1_nearestQuery (of21 _) 5 rfl rfl
theorem dX1_nearestQuery_28 : decode cX1_nearestQuery 28 = .ok (.invokevirtual 65, 3) := dec_2 oX1_nearestQuery (of182 _) 0 65 rfl rfl
theorem dX1_nearestQuery_31 : decode cX1_nearestQuery 31 = .ok (.iload_n 2, 1) := dec_0 oX1_nearestQuery (of28 _) rfl
theorem dX1_nearestQuery_32 : decode cX1_nearestQuery 32 = .ok (.if_icmp .ne 42, 3) := dec_s2 oX1_nearestQuery (of160 _) 0 42 rfl (sg16p rfl) rfl
theorem dX1_nearestQuery_35 : decode cX1_nearestQuery 35 = .ok (.aload_n 0, 1) := dec_0 oX1_nearestQuery (of42 _) rfl
theorem dX1_nearestQuery_36 : decode cX1_nearestQuery 36 = .ok (.getfield 28, 3) := dec_2 oX1_nearestQuery (of180 _) 0 28 rfl rfl
theorem dX1_nearestQuery_39 : decode cX1_nearestQuery 39 = .ok (.iload 5, 2) := dec_1 oX1_nearestQuery (of21 _) 5 rfl rfl
theorem dX1_nearestQuery_41 : decode cX1_nearestQuery 41 = .ok (.iload_n 1, 1) := dec_0 oX1_nearestQuery (of27 _) rfl
theorem dX1_nearestQuery_42 : decode cX1_nearestQuery 42 = .ok (.invokevirtual 162, 3) := dec_2 oX1_nearestQuery (of182 _) 0 162 rfl rfl
theorem dX1_nearestQuery_45 : decode cX1_nearestQuery 45 = .ok (.ifCond .eq 29, 3) := dec_s2 oX1_nearestQuery (of153 _) 0 29 rfl (sg16p rfl) rfl
theorem dX1_nearestQuery_48 : decode cX1_nearestQuery 48 = .ok (.aload_n 0, 1) := dec_0 oX1_nearestQuery (of42 _) rfl
theorem dX1_nearestQuery_49 : decode cX1_nearestQuery 49 = .ok (.getfield 28, 3) := dec_2 oX1_nearestQuery (of180 _) 0 28 rfl rfl
theorem dX1_nearestQuery_52 : decode cX1_nearestQuery 52 = .ok (.getfield 78, 3) := dec_2 oX1_nearestQuery (of180 _) 0 78 rfl rfl
theorem dX1_nearestQuery_55 : decode cX1_nearestQuery 55 = .ok (.invokevirtual 113, 3) := dec_2 oX1_nearestQuery (of182 _) 0 113 rfl rfl
theorem dX1_nearestQuery_58 : decode cX1_nearestQuery 58 = .ok (.istore 6, 2) := dec_1 oX1_nearestQuery (of54 _) 6 rfl rfl
theorem dX1_nearestQuery_60 : decode cX1_nearestQuery 60 = .ok (.iload 6, 2) := dec_1 oX1_nearestQuery (of21 _) 6 rfl rfl
theorem dX1_nearestQuery_62 : decode cX1_nearestQuery 62 = .ok (.iload 4, 2) := dec_1 oX1_nearestQuery (of21 _) 4 rfl rfl
theorem dX1_nearestQuery_64 : decode cX1_nearestQuery 64 = .ok (.if_icmp .ge 10, 3) := dec_s2 oX1_nearestQuery (of162 _) 0 10 rfl (sg16p rfl) rfl
theorem dX1_nearestQuery_67 : decode cX1_nearestQuery 67 = .ok (.iload 6, 2) := dec_1 oX1_nearestQuery (of21 _) 6 rfl rfl
theorem dX1_nearestQuery_69 : decode cX1_nearestQuery 69 = .ok (.istore 4, 2) := dec_1 oX1_nearestQuery (of54 _) 4 rfl rfl
theorem dX1_nearestQuery_71 : decode cX1_nearestQuery 71 = .ok (.iload 5, 2) := dec_1 oX1_nearestQuery (of21 _) 5 rfl rfl
theorem dX1_nearestQuery_73 : decode cX1_nearestQuery 73 = .ok (.istore_n 3, 1) := dec_0 oX1_nearestQuery (of62 _) rfl
theorem dX1_nearestQuery_74 : decode cX1_nearestQuery 74 = .ok (.iinc 5 1, 3) := dec_ii oX1_nearestQuery (of132 _) 5 1 rfl (sg8p rfl) rfl
theorem dX1_nearestQuery_77 : decode cX1_nearestQuery 77 = .ok (.goto (-67), 3) := dec_s2 oX1_nearestQuery (of167 _) 255 189 rfl (sg16n (k := 67) rfl) rfl
theorem dX1_nearestQuery_80 : decode cX1_nearestQuery 80 = .ok (.iload_n 3, 1) := dec_0 oX1_nearestQuery (of29 _) rfl
theorem dX1_nearestQuery_81 : decode cX1_nearestQuery 81 = .ok (.ireturn, 1) := dec_0 oX1_nearestQuery (of172 _) rfl
theorem dX1_firedBits_15 : decode cX1_firedBits 15 = .ok (.aload_n 0, 1) := dec_0 oX1_firedBits (of42 _) rfl
theorem dX1_firedBits_16 : decode cX1_firedBits 16 = .ok (.getfield 38, 3) := dec_2 oX1_firedBits (of180 _) 0 38 rfl rfl
theorem dX1_firedBits_19 : decode cX1_firedBits 19 = .ok (.getfield 59, 3) := dec_2 oX1_firedBits (of180 _) 0 59 rfl rfl
theorem dX1_firedBits_22 : decode cX1_firedBits 22 = .ok (.aload_n 0, 1) := dec_0 oX1_firedBits (of42 _) rfl
theorem dX1_firedBits_23 : decode cX1_firedBits 23 = .ok (.getfield 43, 3) := dec_2 oX1_firedBits (of180 _) 0 43 rfl rfl
theorem dX1_firedBits_26 : decode cX1_firedBits 26 = .ok (.iload_n 3, 1) := dec_0 oX1_firedBits (of29 _) rfl
theorem dX1_firedBits_27 : decode cX1_firedBits 27 = .ok (.invokevirtual 65, 3) := dec_2 oX1_firedBits (of182 _) 0 65 rfl rfl
theorem dX1_firedBits_30 : decode cX1_firedBits 30 = .ok (.isub, 1) := dec_0 oX1_firedBits (of100 _) rfl
theorem dX1_firedBits_31 : decode cX1_firedBits 31 = .ok (.istore 4, 2) := dec_1 oX1_firedBits (of54 _) 4 rfl rfl
theorem dX1_firedBits_33 : decode cX1_firedBits 33 = .ok (.aload_n 0, 1) := dec_0 oX1_firedBits (of42 _) rfl
theorem dX1_firedBits_34 : decode cX1_firedBits 34 = .ok (.getfield 28, 3) := dec_2 oX1_firedBits (of180 _) 0 28 rfl rfl
theorem dX1_firedBits_37 : decode cX1_firedBits 37 = .ok (.iload_n 3, 1) := dec_0 oX1_firedBits (of29 _) rfl
theorem dX1_firedBits_38 : decode cX1_firedBits 38 = .ok (.iload 4, 2) := dec_1 oX1_firedBits (of21 _) 4 rfl rfl
theorem dX1_firedBits_40 : decode cX1_firedBits 40 = .ok (.invokevirtual 162, 3) := dec_2 oX1_firedBits (of182 _) 0 162 rfl rfl
theorem dX1_firedBits_43 : decode cX1_firedBits 43 = .ok (.ifCond .eq 23, 3) := dec_s2 oX1_firedBits (of153 _) 0 23 rfl (sg16p rfl) rfl
theorem dX1_firedBits_46 : decode cX1_firedBits 46 = .ok (.aload_n 0, 1) := dec_0 oX1_firedBits (of42 _) rfl
theorem dX1_firedBits_47 : decode cX1_firedBits 47 = .ok (.getfield 28, 3) := dec_2 oX1_firedBits (of180 _) 0 28 rfl rfl
theorem dX1_firedBits_50 : decode cX1_firedBits 50 = .ok (.getfield 78, 3) := dec_2 oX1_firedBits (of180 _) 0 78 rfl rfl
theorem dX1_firedBits_53 : decode cX1_firedBits 53 = .ok (.invokevirtual 113, 3) := dec_2 oX1_firedBits (of182 _) 0 113 rfl rfl
theorem dX1_firedBits_56 : decode cX1_firedBits 56 = .ok (.iload_n 1, 1) := dec_0 oX1_firedBits (of27 _) rfl
theorem dX1_firedBits_57 : decode cX1_firedBits 57 = .ok (.if_icmp .gt 9, 3) := dec_s2 oX1_firedBits (of163 _) 0 9 rfl (sg16p rfl) rfl
theorem dX1_firedBits_60 : decode cX1_firedBits 60 = .ok (.iload_n 2, 1) := dec_0 oX1_firedBits (of28 _) rfl
theorem dX1_firedBits_61 : decode cX1_firedBits 61 = .ok (.iconst 1, 1) := dec_0 oX1_firedBits (of4 _) rfl
theorem dX1_firedBits_62 : decode cX1_firedBits 62 = .ok (.iload_n 3, 1) := dec_0 oX1_firedBits (of29 _) rfl
theorem dX1_firedBits_63 : decode cX1_firedBits 63 = .ok (.ishl, 1) := dec_0 oX1_firedBits (of120 _) rfl
theorem dX1_firedBits_64 : decode cX1_firedBits 64 = .ok (.ior, 1) := dec_0 oX1_firedBits (of128 _) rfl
theorem dX1_firedBits_65 : decode cX1_firedBits 65 = .ok (.istore_n 2, 1) := dec_0 oX1_firedBits (of61 _) rfl
theorem dX1_firedBits_66 : decode cX1_firedBits 66 = .ok (.iinc 3 1, 3) := dec_ii oX1_firedBits (of132 _) 3 1 rfl (sg8p rfl) rfl
theorem dX1_firedBits_69 : decode cX1_firedBits 69 = .ok (.goto (-65), 3) := dec_s2 oX1_firedBits (of167 _) 255 191 rfl (sg16n (k := 65) rfl) rfl
theorem dX2_begin_0 : decode cX2_begin 0 = .ok (.aload_n 0, 1) := dec_0 oX2_begin (of42 _) rfl
theorem dX2_begin_1 : decode cX2_begin 1 = .ok (.iconst 1, 1) := dec_0 oX2_begin (of4 _) rfl
theorem dX2_begin_2 : decode cX2_begin 2 = .ok (.iload_n 1, 1) := dec_0 oX2_begin (of27 _) rfl
theorem dX2_begin_3 : decode cX2_begin 3 = .ok (.bipush 16, 2) := dec_s1 oX2_begin (of16 _) 16 rfl (sg8p rfl) rfl
theorem dX2_begin_5 : decode cX2_begin 5 = .ok (.invokestatic 28, 3) := dec_2 oX2_begin (of184 _) 0 28 rfl rfl
theorem dX2_begin_8 : decode cX2_begin 8 = .ok (.invokestatic 34, 3) := dec_2 oX2_begin (of184 _) 0 34 rfl rfl
theorem dX2_begin_11 : decode cX2_begin 11 = .ok (.putfield 24, 3) := dec_2 oX2_begin (of181 _) 0 24 rfl rfl
theorem dX2_begin_14 : decode cX2_begin 14 = .ok (.aload_n 0, 1) := dec_0 oX2_begin (of42 _) rfl
theorem dX2_begin_15 : decode cX2_begin 15 = .ok (.iconst 0, 1) := dec_0 oX2_begin (of3 _) rfl
theorem dX2_begin_16 : decode cX2_begin 16 = .ok (.iload_n 2, 1) := dec_0 oX2_begin (of28 _) rfl
theorem dX2_begin_17 : decode cX2_begin 17 = .ok (.invokestatic 34, 3) := dec_2 oX2_begin (of184 _) 0 34 rfl rfl
theorem dX2_begin_20 : decode cX2_begin 20 = .ok (.putfield 37, 3) := dec_2 oX2_begin (of181 _) 0 37 rfl rfl
theorem dX2_begin_23 : decode cX2_begin 23 = .ok (.aload_n 0, 1) := dec_0 oX2_begin (of42 _) rfl
theorem dX2_begin_24 : decode cX2_begin 24 = .ok (.iload_n 3, 1) := dec_0 oX2_begin (of29 _) rfl
theorem dX2_begin_25 : decode cX2_begin 25 = .ok (.iconst 1, 1) := dec_0 oX2_begin (of4 _) rfl
theorem dX2_begin_26 : decode cX2_begin 26 = .ok (.if_icmp .ne 7, 3) := dec_s2 oX2_begin (of160 _) 0 7 rfl (sg16p rfl) rfl
theorem dX2_begin_29 : decode cX2_begin 29 = .ok (.iconst 1, 1) := dec_0 oX2_begin (of4 _) rfl
theorem dX2_begin_30 : decode cX2_begin 30 = .ok (.goto 4, 3) := dec_s2 oX2_begin (of167 _) 0 4 rfl (sg16p rfl) rfl
theorem dX2_begin_33 : decode cX2_begin 33 = .ok (.iconst 0, 1) := dec_0 oX2_begin (of3 _) rfl
theorem dX2_begin_34 : decode cX2_begin 34 = .ok (.putfield 42, 3) := dec_2 oX2_begin (of181 _) 0 42 rfl rfl
theorem dX2_begin_37 : decode cX2_begin 37 = .ok (.return_, 1) := dec_0 oX2_begin (of177 _) rfl
theorem dX2_takeLeft_0 : decode cX2_takeLeft 0 = .ok (.aload_n 0, 1) := dec_0 oX2_takeLeft (of42 _) rfl
theorem dX2_takeLeft_1 : decode cX2_takeLeft 1 = .ok (.aload_n 1, 1) := dec_0 oX2_takeLeft (of43 _) rfl
theorem dX2_takeLeft_2 : decode cX2_takeLeft 2 = .ok (.iload_n 2, 1) := dec_0 oX2_takeLeft (of28 _) rfl
theorem dX2_takeLeft_3 : decode cX2_takeLeft 3 = .ok (.aload_n 0, 1) := dec_0 oX2_takeLeft (of42 _) rfl
theorem dX2_takeLeft_4 : decode cX2_takeLeft 4 = .ok (.getfield 9, 3) := dec_2 oX2_takeLeft (of180 _) 0 9 rfl rfl
theorem dX2_takeLeft_7 : decode cX2_takeLeft 7 = .ok (.iconst 0, 1) := dec_0 oX2_takeLeft (of3 _) rfl
theorem dX2_takeLeft_8 : decode cX2_takeLeft 8 = .ok (.invokevirtual 46, 3) := dec_2 oX2_takeLeft (of182 _) 0 46 rfl rfl
theorem dX2_takeLeft_11 : decode cX2_takeLeft 11 = .ok (.return_, 1) := dec_0 oX2_takeLeft (of177 _) rfl
theorem dX2_takeRight_0 : decode cX2_takeRight 0 = .ok (.aload_n 0, 1) := dec_0 oX2_takeRight (of42 _) rfl
theorem dX2_takeRight_1 : decode cX2_takeRight 1 = .ok (.aload_n 1, 1) := dec_0 oX2_takeRight (of43 _) rfl
theorem dX2_takeRight_2 : decode cX2_takeRight 2 = .ok (.iload_n 2, 1) := dec_0 oX2_takeRight (of28 _) rfl
theorem dX2_takeRight_3 : decode cX2_takeRight 3 = .ok (.aload_n 0, 1) := dec_0 oX2_takeRight (of42 _) rfl
theorem dX2_takeRight_4 : decode cX2_takeRight 4 = .ok (.getfield 15, 3) := dec_2 oX2_takeRight (of180 _) 0 15 rfl rfl
theorem dX2_takeRight_7 : decode cX2_takeRight 7 = .ok (.iconst 0, 1) := dec_0 oX2_takeRight (of3 _) rfl
theorem dX2_takeRight_8 : decode cX2_takeRight 8 = .ok (.invokevirtual 46, 3) := dec_2 oX2_takeRight (of182 _) 0 46 rfl rfl
theorem dX2_takeRight_11 : decode cX2_takeRight 11 = .ok (.return_, 1) := dec_0 oX2_takeRight (of177 _) rfl
theorem dX2_giveLeft_0 : decode cX2_giveLeft 0 = .ok (.aload_n 0, 1) := dec_0 oX2_giveLeft (of42 _) rfl
theorem dX2_giveLeft_1 : decode cX2_giveLeft 1 = .ok (.aload_n 0, 1) := dec_0 oX2_giveLeft (of42 _) rfl
theorem dX2_giveLeft_2 : decode cX2_giveLeft 2 = .ok (.getfield 9, 3) := dec_2 oX2_giveLeft (of180 _) 0 9 rfl rfl
theorem dX2_giveLeft_5 : decode cX2_giveLeft 5 = .ok (.iconst 0, 1) := dec_0 oX2_giveLeft (of3 _) rfl
theorem dX2_giveLeft_6 : decode cX2_giveLeft 6 = .ok (.aload_n 1, 1) := dec_0 oX2_giveLeft (of43 _) rfl
theorem dX2_giveLeft_7 : decode cX2_giveLeft 7 = .ok (.iload_n 2, 1) := dec_0 oX2_giveLeft (of28 _) rfl
theorem dX2_giveLeft_8 : decode cX2_giveLeft 8 = .ok (.invokevirtual 46, 3) := dec_2 oX2_giveLeft (of182 _) 0 46 rfl rfl
theorem dX2_giveLeft_11 : decode cX2_giveLeft 11 = .ok (.return_, 1) := dec_0 oX2_giveLeft (of177 _) rfl
theorem dX2_copyRow_0 : decode cX2_copyRow 0 = .ok (.iload_n 2, 1) := dec_0 oX2_copyRow (of28 _) rfl
theorem dX2_copyRow_1 : decode cX2_copyRow 1 = .ok (.ifCond .lt 31, 3) := dec_s2 oX2_copyRow (of155 _) 0 31 rfl (sg16p rfl) rfl
theorem dX2_copyRow_4 : decode cX2_copyRow 4 = .ok (.iload 4, 2) := dec_1 oX2_copyRow (of21 _) 4 rfl rfl
theorem dX2_copyRow_6 : decode cX2_copyRow 6 = .ok (.ifCond .lt 26, 3) := dec_s2 oX2_copyRow (of155 _) 0 26 rfl (sg16p rfl) rfl
theorem dX2_copyRow_9 : decode cX2_copyRow 9 = .ok (.aload_n 0, 1) := dec_0 oX2_copyRow (of42 _) rfl
theorem dX2_copyRow_10 : decode cX2_copyRow 10 = .ok (.getfield 24, 3) := dec_2 oX2_copyRow (of180 _) 0 24 rfl rfl
theorem dX2_copyRow_13 : decode cX2_copyRow 13 = .ok (.aload_n 1, 1) := dec_0 oX2_copyRow (of43 _) rfl
theorem dX2_copyRow_14 : decode cX2_copyRow 14 = .ok (.arraylength, 1) := dec_0 oX2_copyRow (of190 _) rfl
theorem dX2_copyRow_15 : decode cX2_copyRow 15 = .ok (.iload_n 2, 1) := dec_0 oX2_copyRow (of28 _) rfl
theorem dX2_copyRow_16 : decode cX2_copyRow 16 = .ok (.isub, 1) := dec_0 oX2_copyRow (of100 _) rfl
theorem dX2_copyRow_17 : decode cX2_copyRow 17 = .ok (.if_icmp .gt 15, 3) := dec_s2 oX2_copyRow (of163 _) 0 15 rfl (sg16p rfl) rfl
theorem dX2_copyRow_20 : decode cX2_copyRow 20 = .ok (.aload_n 0, 1) := dec_0 oX2_copyRow (of42 _) rfl
theorem dX2_copyRow_21 : decode cX2_copyRow 21 = .ok (.getfield 24, 3) := dec_2 oX2_copyRow (of180 _) 0 24 rfl rfl
theorem dX2_copyRow_24 : decode cX2_copyRow 24 = .ok (.aload_n 3, 1) := dec_0 oX2_copyRow (of45 _) rfl
theorem dX2_copyRow_25 : decode cX2_copyRow 25 = .ok (.arraylength, 1) := dec_0 oX2_copyRow (of190 _) rfl
theorem dX2_copyRow_26 : decode cX2_copyRow 26 = .ok (.iload 4, 2) := dec_1 oX2_copyRow (of21 _) 4 rfl rfl
theorem dX2_copyRow_28 : decode cX2_copyRow 28 = .ok (.isub, 1) := dec_0 oX2_copyRow (of100 _) rfl
theorem dX2_copyRow_29 : decode cX2_copyRow 29 = .ok (.if_icmp .le 4, 3) := dec_s2 oX2_copyRow (of164 _) 0 4 rfl (sg16p rfl) rfl
theorem dX2_copyRow_32 : decode cX2_copyRow 32 = .ok (.return_, 1) := dec_0 oX2_copyRow (of177 _) rfl
theorem dX2_copyRow_33 : decode cX2_copyRow 33 = .ok (.iconst 0, 1) := dec_0 oX2_copyRow (of3 _) rfl
theorem dX2_copyRow_34 : decode cX2_copyRow 34 = .ok (.istore 5, 2) := dec_1 oX2_copyRow (of54 _) 5 rfl rfl
theorem dX2_copyRow_36 : decode cX2_copyRow 36 = .ok (.iload 5, 2) := dec_1 oX2_copyRow (of21 _) 5 rfl rfl
theorem dX2_copyRow_38 : decode cX2_copyRow 38 = .ok (.aload_n 0, 1) := dec_0 oX2_copyRow (of42 _) rfl
theorem dX2_copyRow_39 : decode cX2_copyRow 39 = .ok (.getfield 24, 3) := dec_2 oX2_copyRow (of180 _) 0 24 rfl rfl
theorem dX2_copyRow_42 : decode cX2_copyRow 42 = .ok (.if_icmp .ge 22, 3) := dec_s2 oX2_copyRow (of162 _) 0 22 rfl (sg16p rfl) rfl
theorem dX2_copyRow_45 : decode cX2_copyRow 45 = .ok (.aload_n 3, 1) := dec_0 oX2_copyRow (of45 _) rfl
theorem dX2_copyRow_46 : decode cX2_copyRow 46 = .ok (.iload 4, 2) := dec_1 oX2_copyRow (of21 _) 4 rfl rfl
theorem dX2_copyRow_48 : decode cX2_copyRow 48 = .ok (.iload 5, 2) := dec_1 oX2_copyRow (of21 _) 5 rfl rfl
theorem dX2_copyRow_50 : decode cX2_copyRow 50 = .ok (.iadd, 1) := dec_0 oX2_copyRow (of96 _) rfl
theorem dX2_copyRow_51 : decode cX2_copyRow 51 = .ok (.aload_n 1, 1) := dec_0 oX2_copyRow (of43 _) rfl
theorem dX2_copyRow_52 : decode cX2_copyRow 52 = .ok (.iload_n 2, 1) := dec_0 oX2_copyRow (of28 _) rfl
theorem dX2_copyRow_53 : decode cX2_copyRow 53 = .ok (.iload 5, 2) := dec_1 oX2_copyRow (of21 _) 5 rfl rfl
theorem dX2_copyRow_55 : decode cX2_copyRow 55 = .ok (.iadd, 1) := dec_0 oX2_copyRow (of96 _) rfl
theorem dX2_copyRow_56 : decode cX2_copyRow 56 = .ok (.iaload, 1) := dec_0 oX2_copyRow (of46 _) rfl
theorem dX2_copyRow_57 : decode cX2_copyRow 57 = .ok (.iastore, 1) := dec_0 oX2_copyRow (of79 _) rfl
theorem dX2_copyRow_58 : decode cX2_copyRow 58 = .ok (.iinc 5 1, 3) := dec_ii oX2_copyRow (of132 _) 5 1 rfl (sg8p rfl) rfl
theorem dX2_copyRow_61 : decode cX2_copyRow 61 = .ok (.goto (-25), 3) := dec_s2 oX2_copyRow (of167 _) 255 231 rfl (sg16n (k := 25) rfl) rfl
theorem dX2_copyRow_64 : decode cX2_copyRow 64 = .ok (.return_, 1) := dec_0 oX2_copyRow (of177 _) rfl
theorem dX2_bringToLevel_0 : decode cX2_bringToLevel 0 = .ok (.aload_n 0, 1) := dec_0 oX2_bringToLevel (of42 _) rfl
theorem dX2_bringToLevel_1 : decode cX2_bringToLevel 1 = .ok (.getfield 24, 3) := dec_2 oX2_bringToLevel (of180 _) 0 24 rfl rfl
theorem dX2_bringToLevel_4 : decode cX2_bringToLevel 4 = .ok (.iconst 1, 1) := dec_0 oX2_bringToLevel (of4 _) rfl
theorem dX2_bringToLevel_5 : decode cX2_bringToLevel 5 = .ok (.if_icmp .lt 12, 3) := dec_s2 oX2_bringToLevel (of161 _) 0 12 rfl (sg16p rfl) rfl
theorem dX2_bringToLevel_8 : decode cX2_bringToLevel 8 = .ok (.aload_n 0, 1) := dec_0 oX2_bringToLevel (of42 _) rfl
theorem dX2_bringToLevel_9 : decode cX2_bringToLevel 9 = .ok (.getfield 24, 3) := dec_2 oX2_bringToLevel (of180 _) 0 24 rfl rfl
theorem dX2_bringToLevel_12 : decode cX2_bringToLevel 12 = .ok (.aload_n 1, 1) := dec_0 oX2_bringToLevel (of43 _) rfl
theorem dX2_bringToLevel_13 : decode cX2_bringToLevel 13 = .ok (.arraylength, 1) := dec_0 oX2_bringToLevel (of190 _) rfl
theorem dX2_bringToLevel_14 : decode cX2_bringToLevel 14 = .ok (.if_icmp .le 4, 3) := dec_s2 oX2_bringToLevel (of164 _) 0 4 rfl (sg16p rfl) rfl
theorem dX2_bringToLevel_17 : decode cX2_bringToLevel 17 = .ok (.return_, 1) := dec_0 oX2_bringToLevel (of177 _) rfl
theorem dX2_bringToLevel_18 : decode cX2_bringToLevel 18 = .ok (.iload_n 2, 1) := dec_0 oX2_bringToLevel (of28 _) rfl
theorem dX2_bringToLevel_19 : decode cX2_bringToLevel 19 = .ok (.iconst 1, 1) := dec_0 oX2_bringToLevel (of4 _) rfl
theorem dX2_bringToLevel_20 : decode cX2_bringToLevel 20 = .ok (.if_icmp .ne 23, 3) := dec_s2 oX2_bringToLevel (of160 _) 0 23 rfl (sg16p rfl) rfl
theorem dX2_bringToLevel_23 : decode cX2_bringToLevel 23 = .ok (.aload_n 0, 1) := dec_0 oX2_bringToLevel (of42 _) rfl
theorem dX2_bringToLevel_24 : decode cX2_bringToLevel 24 = .ok (.aload_n 1, 1) := dec_0 oX2_bringToLevel (of43 _) rfl
theorem dX2_bringToLevel_25 : decode cX2_bringToLevel 25 = .ok (.aload_n 0, 1) := dec_0 oX2_bringToLevel (of42 _) rfl
theorem dX2_bringToLevel_26 : decode cX2_bringToLevel 26 = .ok (.aload_n 1, 1) := dec_0 oX2_bringToLevel (of43 _) rfl
theorem dX2_bringToLevel_27 : decode cX2_bringToLevel 27 = .ok (.invokevirtual 50, 3) := dec_2 oX2_bringToLevel (of182 _) 0 50 rfl rfl
theorem dX2_bringToLevel_30 : decode cX2_bringToLevel 30 = .ok (.aload_n 0, 1) := dec_0 oX2_bringToLevel (of42 _) rfl
theorem dX2_bringToLevel_31 : decode cX2_bringToLevel 31 = .ok (.getfield 24, 3) := dec_2 oX2_bringToLevel (of180 _) 0 24 rfl rfl
theorem dX2_bringToLevel_34 : decode cX2_bringToLevel 34 = .ok (.invokestatic 54, 3) := dec_2 oX2_bringToLevel (of184 _) 0 54 rfl rfl
theorem dX2_bringToLevel_37 : decode cX2_bringToLevel 37 = .ok (.invokevirtual 57, 3) := dec_2 oX2_bringToLevel (of182 _) 0 57 rfl rfl
theorem dX2_bringToLevel_40 : decode cX2_bringToLevel 40 = .ok (.goto 29, 3) := dec_s2 oX2_bringToLevel (of167 _) 0 29 rfl (sg16p rfl) rfl
theorem dX2_bringToLevel_43 : decode cX2_bringToLevel 43 = .ok (.iload_n 2, 1) := dec_0 oX2_bringToLevel (of28 _) rfl
theorem dX2_bringToLevel_44 : decode cX2_bringToLevel 44 = .ok (.iconst 2, 1) := dec_0 oX2_bringToLevel (of5 _) rfl
theorem dX2_bringToLevel_45 : decode cX2_bringToLevel 45 = .ok (.if_icmp .ne 14, 3) := dec_s2 oX2_bringToLevel (of160 _) 0 14 rfl (sg16p rfl) rfl
theorem dX2_bringToLevel_48 : decode cX2_bringToLevel 48 = .ok (.aload_n 0, 1) := dec_0 oX2_bringToLevel (of42 _) rfl
theorem dX2_bringToLevel_49 : decode cX2_bringToLevel 49 = .ok (.aload_n 1, 1) := dec_0 oX2_bringToLevel (of43 _) rfl
theorem dX2_bringToLevel_50 : decode cX2_bringToLevel 50 = .ok (.aload_n 1, 1) := dec_0 oX2_bringToLevel (of43 _) rfl
theorem dX2_bringToLevel_51 : decode cX2_bringToLevel 51 = .ok (.iconst 0, 1) := dec_0 oX2_bringToLevel (of3 _) rfl
theorem dX2_bringToLevel_52 : decode cX2_bringToLevel 52 = .ok (.iaload, 1) := dec_0 oX2_bringToLevel (of46 _) rfl
theorem dX2_bringToLevel_53 : decode cX2_bringToLevel 53 = .ok (.invokevirtual 57, 3) := dec_2 oX2_bringToLevel (of182 _) 0 57 rfl rfl
theorem dX2_bringToLevel_56 : decode cX2_bringToLevel 56 = .ok (.goto 13, 3) := dec_s2 oX2_bringToLevel (of167 _) 0 13 rfl (sg16p rfl) rfl
theorem dX2_bringToLevel_59 : decode cX2_bringToLevel 59 = .ok (.iload_n 2, 1) := dec_0 oX2_bringToLevel (of28 _) rfl
theorem dX2_bringToLevel_60 : decode cX2_bringToLevel 60 = .ok (.iconst 3, 1) := dec_0 oX2_bringToLevel (of6 _) rfl
theorem dX2_bringToLevel_61 : decode cX2_bringToLevel 61 = .ok (.if_icmp .ne 8, 3) := dec_s2 oX2_bringToLevel (of160 _) 0 8 rfl (sg16p rfl) rfl
theorem dX2_bringToLevel_64 : decode cX2_bringToLevel 64 = .ok (.aload_n 0, 1) := dec_0 oX2_bringToLevel (of42 _) rfl
theorem dX2_bringToLevel_65 : decode cX2_bringToLevel 65 = .ok (.aload_n 1, 1) := dec_0 oX2_bringToLevel (of43 _) rfl
theorem dX2_bringToLevel_66 : decode cX2_bringToLevel 66 = .ok (.invokevirtual 61, 3) := dec_2 oX2_bringToLevel (of182 _) 0 61 rfl rfl
theorem dX2_bringToLevel_69 : decode cX2_bringToLevel 69 = .ok (.return_, 1) := dec_0 oX2_bringToLevel (of177 _) rfl
theorem dX2_sumOf_0 : decode cX2_sumOf 0 = .ok (.iconst 0, 1) := dec_0 oX2_sumOf (of3 _) rfl
theorem dX2_sumOf_1 : decode cX2_sumOf 1 = .ok (.istore_n 2, 1) := dec_0 oX2_sumOf (of61 _) rfl
theorem dX2_sumOf_2 : decode cX2_sumOf 2 = .ok (.iconst 0, 1) := dec_0 oX2_sumOf (of3 _) rfl
theorem dX2_sumOf_3 : decode cX2_sumOf 3 = .ok (.istore_n 3, 1) := dec_0 oX2_sumOf (of62 _) rfl
theorem dX2_sumOf_4 : decode cX2_sumOf 4 = .ok (.iload_n 3, 1) := dec_0 oX2_sumOf (of29 _) rfl
theorem dX2_sumOf_5 : decode cX2_sumOf 5 = .ok (.aload_n 0, 1) := dec_0 oX2_sumOf (of42 _) rfl
theorem dX2_sumOf_6 : decode cX2_sumOf 6 = .ok (.getfield 24, 3) := dec_2 oX2_sumOf (of180 _) 0 24 rfl rfl
theorem dX2_sumOf_9 : decode cX2_sumOf 9 = .ok (.if_icmp .ge 21, 3) := dec_s2 oX2_sumOf (of162 _) 0 21 rfl (sg16p rfl) rfl
theorem dX2_sumOf_12 : decode cX2_sumOf 12 = .ok (.iload_n 3, 1) := dec_0 oX2_sumOf (of29 _) rfl
theorem dX2_sumOf_13 : decode cX2_sumOf 13 = .ok (.aload_n 1, 1) := dec_0 oX2_sumOf (of43 _) rfl
theorem dX2_sumOf_14 : decode cX2_sumOf 14 = .ok (.arraylength, 1) := dec_0 oX2_sumOf (of190 _) rfl
theorem dX2_sumOf_15 : decode cX2_sumOf 15 = .ok (.if_icmp .ge 15, 3) := dec_s2 oX2_sumOf (of162 _) 0 15 rfl (sg16p rfl) rfl
theorem dX2_sumOf_18 : decode cX2_sumOf 18 = .ok (.iload_n 2, 1) := dec_0 oX2_sumOf (of28 _) rfl
theorem dX2_sumOf_19 : decode cX2_sumOf 19 = .ok (.aload_n 1, 1) := dec_0 oX2_sumOf (of43 _) rfl
theorem dX2_sumOf_20 : decode cX2_sumOf 20 = .ok (.iload_n 3, 1) := dec_0 oX2_sumOf (of29 _) rfl
theorem dX2_sumOf_21 : decode cX2_sumOf 21 = .ok (.iaload, 1) := dec_0 oX2_sumOf (of46 _) rfl
theorem dX2_sumOf_22 : decode cX2_sumOf 22 = .ok (.iadd, 1) := dec_0 oX2_sumOf (of96 _) rfl
theorem dX2_sumOf_23 : decode cX2_sumOf 23 = .ok (.istore_n 2, 1) := dec_0 oX2_sumOf (of61 _) rfl
theorem dX2_sumOf_24 : decode cX2_sumOf 24 = .ok (.iinc 3 1, 3) := dec_ii oX2_sumOf (of132 _) 3 1 rfl (sg8p rfl) rfl
theorem dX2_sumOf_27 : decode cX2_sumOf 27 = .ok (.goto (-23), 3) := dec_s2 oX2_sumOf (of167 _) 255 233 rfl (sg16n (k := 23) rfl) rfl
theorem dX2_sumOf_30 : decode cX2_sumOf 30 = .ok (.iload_n 2, 1) := dec_0 oX2_sumOf (of28 _) rfl
theorem dX2_sumOf_31 : decode cX2_sumOf 31 = .ok (.ireturn, 1) := dec_0 oX2_sumOf (of172 _) rfl
theorem dX2_lessenAll_0 : decode cX2_lessenAll 0 = .ok (.iconst 0, 1) := dec_0 oX2_lessenAll (of3 _) rfl
theorem dX2_lessenAll_1 : decode cX2_lessenAll 1 = .ok (.istore_n 3, 1) := dec_0 oX2_lessenAll (of62 _) rfl
theorem dX2_lessenAll_2 : decode cX2_lessenAll 2 = .ok (.iload_n 3, 1) := dec_0 oX2_lessenAll (of29 _) rfl
theorem dX2_lessenAll_3 : decode cX2_lessenAll 3 = .ok (.aload_n 0, 1) := dec_0 oX2_lessenAll (of42 _) rfl
theorem dX2_lessenAll_4 : decode cX2_lessenAll 4 = .ok (.getfield 24, 3) := dec_2 oX2_lessenAll (of180 _) 0 24 rfl rfl
theorem dX2_lessenAll_7 : decode cX2_lessenAll 7 = .ok (.if_icmp .ge 22, 3) := dec_s2 oX2_lessenAll (of162 _) 0 22 rfl (sg16p rfl) rfl
theorem dX2_lessenAll_10 : decode cX2_lessenAll 10 = .ok (.iload_n 3, 1) := dec_0 oX2_lessenAll (of29 _) rfl
theorem dX2_lessenAll_11 : decode cX2_lessenAll 11 = .ok (.aload_n 1, 1) := dec_0 oX2_lessenAll (of43 _) rfl
theorem dX2_lessenAll_12 : decode cX2_lessenAll 12 = .ok (.arraylength, 1) := dec_0 oX2_lessenAll (of190 _) rfl
theorem dX2_lessenAll_13 : decode cX2_lessenAll 13 = .ok (.if_icmp .ge 16, 3) := dec_s2 oX2_lessenAll (of162 _) 0 16 rfl (sg16p rfl) rfl
theorem dX2_lessenAll_16 : decode cX2_lessenAll 16 = .ok (.aload_n 1, 1) := dec_0 oX2_lessenAll (of43 _) rfl
theorem dX2_lessenAll_17 : decode cX2_lessenAll 17 = .ok (.iload_n 3, 1) := dec_0 oX2_lessenAll (of29 _) rfl
theorem dX2_lessenAll_18 : decode cX2_lessenAll 18 = .ok (.dup2, 1) := dec_0 oX2_lessenAll (of92 _) rfl
theorem dX2_lessenAll_19 : decode cX2_lessenAll 19 = .ok (.iaload, 1) := dec_0 oX2_lessenAll (of46 _) rfl
theorem dX2_lessenAll_20 : decode cX2_lessenAll 20 = .ok (.iload_n 2, 1) := dec_0 oX2_lessenAll (of28 _) rfl
theorem dX2_lessenAll_21 : decode cX2_lessenAll 21 = .ok (.isub, 1) := dec_0 oX2_lessenAll (of100 _) rfl
theorem dX2_lessenAll_22 : decode cX2_lessenAll 22 = .ok (.iastore, 1) := dec_0 oX2_lessenAll (of79 _) rfl
theorem dX2_lessenAll_23 : decode cX2_lessenAll 23 = .ok (.iinc 3 1, 3) := dec_ii oX2_lessenAll (of132 _) 3 1 rfl (sg8p rfl) rfl
theorem dX2_lessenAll_26 : decode cX2_lessenAll 26 = .ok (.goto (-24), 3) := dec_s2 oX2_lessenAll (of167 _) 255 232 rfl (sg16n (k := 24) rfl) rfl
theorem dX2_lessenAll_29 : decode cX2_lessenAll 29 = .ok (.return_, 1) := dec_0 oX2_lessenAll (of177 _) rfl
theorem dX2_spreadAll_0 : decode cX2_spreadAll 0 = .ok (.aload_n 1, 1) := dec_0 oX2_spreadAll (of43 _) rfl
theorem dX2_spreadAll_1 : decode cX2_spreadAll 1 = .ok (.iconst 0, 1) := dec_0 oX2_spreadAll (of3 _) rfl
theorem dX2_spreadAll_2 : decode cX2_spreadAll 2 = .ok (.iaload, 1) := dec_0 oX2_spreadAll (of46 _) rfl
theorem dX2_spreadAll_3 : decode cX2_spreadAll 3 = .ok (.istore_n 2, 1) := dec_0 oX2_spreadAll (of61 _) rfl
theorem dX2_spreadAll_4 : decode cX2_spreadAll 4 = .ok (.aload_n 1, 1) := dec_0 oX2_spreadAll (of43 _) rfl
theorem dX2_spreadAll_5 : decode cX2_spreadAll 5 = .ok (.iconst 0, 1) := dec_0 oX2_spreadAll (of3 _) rfl
theorem dX2_spreadAll_6 : decode cX2_spreadAll 6 = .ok (.iaload, 1) := dec_0 oX2_spreadAll (of46 _) rfl
theorem dX2_spreadAll_7 : decode cX2_spreadAll 7 = .ok (.istore_n 3, 1) := dec_0 oX2_spreadAll (of62 _) rfl
theorem dX2_spreadAll_8 : decode cX2_spreadAll 8 = .ok (.iconst 1, 1) := dec_0 oX2_spreadAll (of4 _) rfl
theorem dX2_spreadAll_9 : decode cX2_spreadAll 9 = .ok (.istore 4, 2) := dec_1 oX2_spreadAll (of54 _) 4 rfl rfl
theorem dX2_spreadAll_11 : decode cX2_spreadAll 11 = .ok (.iload 4, 2) := dec_1 oX2_spreadAll (of21 _) 4 rfl rfl
theorem dX2_spreadAll_13 : decode cX2_spreadAll 13 = .ok (.aload_n 0, 1) := dec_0 oX2_spreadAll (of42 _) rfl
theorem dX2_spreadAll_14 : decode cX2_spreadAll 14 = .ok (.getfield 24, 3) := dec_2 oX2_spreadAll (of180 _) 0 24 rfl rfl
theorem dX2_spreadAll_17 : decode cX2_spreadAll 17 = .ok (.if_icmp .ge 27, 3) := dec_s2 oX2_spreadAll (of162 _) 0 27 rfl (sg16p rfl) rfl
theorem dX2_spreadAll_20 : decode cX2_spreadAll 20 = .ok (.iload_n 2, 1) := dec_0 oX2_spreadAll (of28 _) rfl
