section
theorem dX0_hasBoth_11 : decode cX0_hasBoth 11 = .ok (.aload_n 0, 1) := dec_0 oX0_hasBoth (of42 _) rfl
theorem dX0_hasBoth_12 : decode cX0_hasBoth 12 = .ok (.getfield 18, 3) := dec_2 oX0_hasBoth (of180 _) 0 18 rfl rfl
theorem dX0_hasBoth_15 : decode cX0_hasBoth 15 = .ok (.iload_n 2, 1) := dec_0 oX0_hasBoth (of28 _) rfl
theorem dX0_hasBoth_16 : decode cX0_hasBoth 16 = .ok (.aload_n 0, 1) := dec_0 oX0_hasBoth (of42 _) rfl
theorem dX0_hasBoth_17 : decode cX0_hasBoth 17 = .ok (.getfield 22, 3) := dec_2 oX0_hasBoth (of180 _) 0 22 rfl rfl
theorem dX0_hasBoth_20 : decode cX0_hasBoth 20 = .ok (.iload_n 1, 1) := dec_0 oX0_hasBoth (of27 _) rfl
theorem dX0_hasBoth_21 : decode cX0_hasBoth 21 = .ok (.invokevirtual 36, 3) := dec_2 oX0_hasBoth (of182 _) 0 36 rfl rfl
theorem dX0_hasBoth_24 : decode cX0_hasBoth 24 = .ok (.invokevirtual 40, 3) := dec_2 oX0_hasBoth (of182 _) 0 40 rfl rfl
theorem dX0_hasBoth_27 : decode cX0_hasBoth 27 = .ok (.ifCond .eq 7, 3) := dec_s2 oX0_hasBoth (of153 _) 0 7 rfl (sg16p rfl) rfl
theorem dX0_hasBoth_30 : decode cX0_hasBoth 30 = .ok (.iconst 1, 1) := dec_0 oX0_hasBoth (of4 _) rfl
theorem dX0_hasBoth_31 : decode cX0_hasBoth 31 = .ok (.goto 4, 3) := dec_s2 oX0_hasBoth (of167 _) 0 4 rfl (sg16p rfl) rfl
theorem dX0_openBoth_11 : decode cX0_openBoth 11 = .ok (.aload_n 0, 1) := dec_0 oX0_openBoth (of42 _) rfl
theorem dX0_openBoth_12 : decode cX0_openBoth 12 = .ok (.iload_n 1, 1) := dec_0 oX0_openBoth (of27 _) rfl
theorem dX0_openBoth_13 : decode cX0_openBoth 13 = .ok (.aload_n 0, 1) := dec_0 oX0_openBoth (of42 _) rfl
theorem dX0_openBoth_14 : decode cX0_openBoth 14 = .ok (.getfield 26, 3) := dec_2 oX0_openBoth (of180 _) 0 26 rfl rfl
theorem dX0_openBoth_17 : decode cX0_openBoth 17 = .ok (.iconst 0, 1) := dec_0 oX0_openBoth (of3 _) rfl
theorem dX0_openBoth_18 : decode cX0_openBoth 18 = .ok (.invokevirtual 49, 3) := dec_2 oX0_openBoth (of182 _) 0 49 rfl rfl
theorem dX0_openBoth_21 : decode cX0_openBoth 21 = .ok (.invokevirtual 54, 3) := dec_2 oX0_openBoth (of182 _) 0 54 rfl rfl
theorem dX0_openBoth_24 : decode cX0_openBoth 24 = .ok (.aload_n 0, 1) := dec_0 oX0_openBoth (of42 _) rfl
theorem dX0_openBoth_25 : decode cX0_openBoth 25 = .ok (.iload_n 2, 1) := dec_0 oX0_openBoth (of28 _) rfl
theorem dX0_openBoth_26 : decode cX0_openBoth 26 = .ok (.invokevirtual 58, 3) := dec_2 oX0_openBoth (of182 _) 0 58 rfl rfl
theorem dX0_openBoth_29 : decode cX0_openBoth 29 = .ok (.iconst 1, 1) := dec_0 oX0_openBoth (of4 _) rfl
theorem dX0_openBoth_30 : decode cX0_openBoth 30 = .ok (.ireturn, 1) := dec_0 oX0_openBoth (of172 _) rfl
theorem dX0_openQuery_0 : decode cX0_openQuery 0 = .ok (.aload_n 0, 1) := dec_0 oX0_openQuery (of42 _) rfl
theorem dX0_openQuery_1 : decode cX0_openQuery 1 = .ok (.aload_n 0, 1) := dec_0 oX0_openQuery (of42 _) rfl
theorem dX0_openQuery_2 : decode cX0_openQuery 2 = .ok (.getfield 22, 3) := dec_2 oX0_openQuery (of180 _) 0 22 rfl rfl
theorem dX0_openQuery_5 : decode cX0_openQuery 5 = .ok (.iload_n 1, 1) := dec_0 oX0_openQuery (of27 _) rfl
theorem dX0_openQuery_6 : decode cX0_openQuery 6 = .ok (.invokevirtual 36, 3) := dec_2 oX0_openQuery (of182 _) 0 36 rfl rfl
theorem dX0_openQuery_9 : decode cX0_openQuery 9 = .ok (.iload_n 2, 1) := dec_0 oX0_openQuery (of28 _) rfl
theorem dX0_openQuery_10 : decode cX0_openQuery 10 = .ok (.invokevirtual 62, 3) := dec_2 oX0_openQuery (of182 _) 0 62 rfl rfl
theorem dX0_openQuery_13 : decode cX0_openQuery 13 = .ok (.aload_n 0, 1) := dec_0 oX0_openQuery (of42 _) rfl
theorem dX0_openQuery_14 : decode cX0_openQuery 14 = .ok (.getfield 22, 3) := dec_2 oX0_openQuery (of180 _) 0 22 rfl rfl
theorem dX0_openQuery_17 : decode cX0_openQuery 17 = .ok (.iload_n 1, 1) := dec_0 oX0_openQuery (of27 _) rfl
theorem dX0_openQuery_18 : decode cX0_openQuery 18 = .ok (.aload_n 0, 1) := dec_0 oX0_openQuery (of42 _) rfl
theorem dX0_openQuery_19 : decode cX0_openQuery 19 = .ok (.getfield 12, 3) := dec_2 oX0_openQuery (of180 _) 0 12 rfl rfl
theorem dX0_openQuery_22 : decode cX0_openQuery 22 = .ok (.getfield 65, 3) := dec_2 oX0_openQuery (of180 _) 0 65 rfl rfl
theorem dX0_openQuery_25 : decode cX0_openQuery 25 = .ok (.invokevirtual 69, 3) := dec_2 oX0_openQuery (of182 _) 0 69 rfl rfl
theorem dX0_openQuery_28 : decode cX0_openQuery 28 = .ok (.aload_n 0, 1) := dec_0 oX0_openQuery (of42 _) rfl
theorem dX0_openQuery_29 : decode cX0_openQuery 29 = .ok (.getfield 12, 3) := dec_2 oX0_openQuery (of180 _) 0 12 rfl rfl
theorem dX0_openQuery_32 : decode cX0_openQuery 32 = .ok (.aload_n 0, 1) := dec_0 oX0_openQuery (of42 _) rfl
theorem dX0_openQuery_33 : decode cX0_openQuery 33 = .ok (.getfield 12, 3) := dec_2 oX0_openQuery (of180 _) 0 12 rfl rfl
theorem dX0_openQuery_36 : decode cX0_openQuery 36 = .ok (.getfield 65, 3) := dec_2 oX0_openQuery (of180 _) 0 65 rfl rfl
theorem dX0_openQuery_39 : decode cX0_openQuery 39 = .ok (.aload_n 0, 1) := dec_0 oX0_openQuery (of42 _) rfl
theorem dX0_openQuery_40 : decode cX0_openQuery 40 = .ok (.getfield 26, 3) := dec_2 oX0_openQuery (of180 _) 0 26 rfl rfl
theorem dX0_openQuery_43 : decode cX0_openQuery 43 = .ok (.iconst 1, 1) := dec_0 oX0_openQuery (of4 _) rfl
theorem dX0_openQuery_44 : decode cX0_openQuery 44 = .ok (.invokevirtual 49, 3) := dec_2 oX0_openQuery (of182 _) 0 49 rfl rfl
theorem dX0_openQuery_47 : decode cX0_openQuery 47 = .ok (.invokevirtual 73, 3) := dec_2 oX0_openQuery (of182 _) 0 73 rfl rfl
theorem dX0_openQuery_50 : decode cX0_openQuery 50 = .ok (.return_, 1) := dec_0 oX0_openQuery (of177 _) rfl
theorem dX0_openWindow_0 : decode cX0_openWindow 0 = .ok (.aload_n 0, 1) := dec_0 oX0_openWindow (of42 _) rfl
theorem dX0_openWindow_1 : decode cX0_openWindow 1 = .ok (.iload_n 2, 1) := dec_0 oX0_openWindow (of28 _) rfl
theorem dX0_openWindow_2 : decode cX0_openWindow 2 = .ok (.aload_n 0, 1) := dec_0 oX0_openWindow (of42 _) rfl
theorem dX0_openWindow_3 : decode cX0_openWindow 3 = .ok (.getfield 26, 3) := dec_2 oX0_openWindow (of180 _) 0 26 rfl rfl
theorem dX0_openWindow_6 : decode cX0_openWindow 6 = .ok (.iconst 0, 1) := dec_0 oX0_openWindow (of3 _) rfl
theorem dX0_openWindow_7 : decode cX0_openWindow 7 = .ok (.invokevirtual 49, 3) := dec_2 oX0_openWindow (of182 _) 0 49 rfl rfl
theorem dX0_openWindow_10 : decode cX0_openWindow 10 = .ok (.invokevirtual 62, 3) := dec_2 oX0_openWindow (of182 _) 0 62 rfl rfl
theorem dX0_openWindow_13 : decode cX0_openWindow 13 = .ok (.aload_n 0, 1) := dec_0 oX0_openWindow (of42 _) rfl
theorem dX0_openWindow_14 : decode cX0_openWindow 14 = .ok (.getfield 18, 3) := dec_2 oX0_openWindow (of180 _) 0 18 rfl rfl
theorem dX0_openWindow_17 : decode cX0_openWindow 17 = .ok (.iload_n 1, 1) := dec_0 oX0_openWindow (of27 _) rfl
theorem dX0_openWindow_18 : decode cX0_openWindow 18 = .ok (.aload_n 0, 1) := dec_0 oX0_openWindow (of42 _) rfl
theorem dX0_openWindow_19 : decode cX0_openWindow 19 = .ok (.getfield 77, 3) := dec_2 oX0_openWindow (of180 _) 0 77 rfl rfl
theorem dX0_openWindow_22 : decode cX0_openWindow 22 = .ok (.aload_n 0, 1) := dec_0 oX0_openWindow (of42 _) rfl
theorem dX0_openWindow_23 : decode cX0_openWindow 23 = .ok (.getfield 12, 3) := dec_2 oX0_openWindow (of180 _) 0 12 rfl rfl
theorem dX0_openWindow_26 : decode cX0_openWindow 26 = .ok (.getfield 65, 3) := dec_2 oX0_openWindow (of180 _) 0 65 rfl rfl
theorem dX0_openWindow_29 : decode cX0_openWindow 29 = .ok (.invokevirtual 81, 3) := dec_2 oX0_openWindow (of182 _) 0 81 rfl rfl
theorem dX0_openWindow_32 : decode cX0_openWindow 32 = .ok (.aload_n 0, 1) := dec_0 oX0_openWindow (of42 _) rfl
theorem dX0_openWindow_33 : decode cX0_openWindow 33 = .ok (.getfield 12, 3) := dec_2 oX0_openWindow (of180 _) 0 12 rfl rfl
theorem dX0_openWindow_36 : decode cX0_openWindow 36 = .ok (.aload_n 0, 1) := dec_0 oX0_openWindow (of42 _) rfl
theorem dX0_openWindow_37 : decode cX0_openWindow 37 = .ok (.getfield 12, 3) := dec_2 oX0_openWindow (of180 _) 0 12 rfl rfl
theorem dX0_openWindow_40 : decode cX0_openWindow 40 = .ok (.getfield 65, 3) := dec_2 oX0_openWindow (of180 _) 0 65 rfl rfl
theorem dX0_openWindow_43 : decode cX0_openWindow 43 = .ok (.aload_n 0, 1) := dec_0 oX0_openWindow (of42 _) rfl
theorem dX0_openWindow_44 : decode cX0_openWindow 44 = .ok (.getfield 26, 3) := dec_2 oX0_openWindow (of180 _) 0 26 rfl rfl
theorem dX0_openWindow_47 : decode cX0_openWindow 47 = .ok (.iconst 1, 1) := dec_0 oX0_openWindow (of4 _) rfl
theorem dX0_openWindow_48 : decode cX0_openWindow 48 = .ok (.invokevirtual 49, 3) := dec_2 oX0_openWindow (of182 _) 0 49 rfl rfl
theorem dX0_openWindow_51 : decode cX0_openWindow 51 = .ok (.invokevirtual 73, 3) := dec_2 oX0_openWindow (of182 _) 0 73 rfl rfl
theorem dX0_openWindow_54 : decode cX0_openWindow 54 = .ok (.return_, 1) := dec_0 oX0_openWindow (of177 _) rfl
theorem dX0_begin_0 : decode cX0_begin 0 = .ok (.aload_n 0, 1) := dec_0 oX0_begin (of42 _) rfl
theorem dX0_begin_1 : decode cX0_begin 1 = .ok (.iload_n 1, 1) := dec_0 oX0_begin (of27 _) rfl
theorem dX0_begin_2 : decode cX0_begin 2 = .ok (.putfield 77, 3) := dec_2 oX0_begin (of181 _) 0 77 rfl rfl
theorem dX0_begin_5 : decode cX0_begin 5 = .ok (.aload_n 0, 1) := dec_0 oX0_begin (of42 _) rfl
theorem dX0_begin_6 : decode cX0_begin 6 = .ok (.getfield 12, 3) := dec_2 oX0_begin (of180 _) 0 12 rfl rfl
theorem dX0_begin_9 : decode cX0_begin 9 = .ok (.iload_n 1, 1) := dec_0 oX0_begin (of27 _) rfl
theorem dX0_begin_10 : decode cX0_begin 10 = .ok (.iload_n 2, 1) := dec_0 oX0_begin (of28 _) rfl
theorem dX0_begin_11 : decode cX0_begin 11 = .ok (.aload_n 0, 1) := dec_0 oX0_begin (of42 _) rfl
theorem dX0_begin_12 : decode cX0_begin 12 = .ok (.getfield 26, 3) := dec_2 oX0_begin (of180 _) 0 26 rfl rfl
theorem dX0_begin_15 : decode cX0_begin 15 = .ok (.iconst 2, 1) := dec_0 oX0_begin (of5 _) rfl
theorem dX0_begin_16 : decode cX0_begin 16 = .ok (.invokevirtual 49, 3) := dec_2 oX0_begin (of182 _) 0 49 rfl rfl
theorem dX0_begin_19 : decode cX0_begin 19 = .ok (.invokevirtual 85, 3) := dec_2 oX0_begin (of182 _) 0 85 rfl rfl
theorem dX0_begin_22 : decode cX0_begin 22 = .ok (.return_, 1) := dec_0 oX0_begin (of177 _) rfl
theorem dX0_laySecondWindow_0 : decode cX0_laySecondWindow 0 = .ok (.aload_n 0, 1) := dec_0 oX0_laySecondWindow (of42 _) rfl
theorem dX0_laySecondWindow_1 : decode cX0_laySecondWindow 1 = .ok (.getfield 18, 3) := dec_2 oX0_laySecondWindow (of180 _) 0 18 rfl rfl
theorem dX0_laySecondWindow_4 : decode cX0_laySecondWindow 4 = .ok (.iload_n 1, 1) := dec_0 oX0_laySecondWindow (of27 _) rfl
theorem dX0_laySecondWindow_5 : decode cX0_laySecondWindow 5 = .ok (.aload_n 0, 1) := dec_0 oX0_laySecondWindow (of42 _) rfl
theorem dX0_laySecondWindow_6 : decode cX0_laySecondWindow 6 = .ok (.getfield 77, 3) := dec_2 oX0_laySecondWindow (of180 _) 0 77 rfl rfl
theorem dX0_laySecondWindow_9 : decode cX0_laySecondWindow 9 = .ok (.aload_n 0, 1) := dec_0 oX0_laySecondWindow (of42 _) rfl
theorem dX0_laySecondWindow_10 : decode cX0_laySecondWindow 10 = .ok (.getfield 12, 3) := dec_2 oX0_laySecondWindow (of180 _) 0 12 rfl rfl
theorem dX0_laySecondWindow_13 : decode cX0_laySecondWindow 13 = .ok (.getfield 88, 3) := dec_2 oX0_laySecondWindow (of180 _) 0 88 rfl rfl
theorem dX0_laySecondWindow_16 : decode cX0_laySecondWindow 16 = .ok (.invokevirtual 81, 3) := dec_2 oX0_laySecondWindow (of182 _) 0 81 rfl rfl
theorem dX0_laySecondWindow_19 : decode cX0_laySecondWindow 19 = .ok (.aload_n 0, 1) := dec_0 oX0_laySecondWindow (of42 _) rfl
theorem dX0_laySecondWindow_20 : decode cX0_laySecondWindow 20 = .ok (.getfield 12, 3) := dec_2 oX0_laySecondWindow (of180 _) 0 12 rfl rfl
theorem dX0_laySecondWindow_23 : decode cX0_laySecondWindow 23 = .ok (.aload_n 0, 1) := dec_0 oX0_laySecondWindow (of42 _) rfl
theorem dX0_laySecondWindow_24 : decode cX0_laySecondWindow 24 = .ok (.getfield 12, 3) := dec_2 oX0_laySecondWindow (of180 _) 0 12 rfl rfl
theorem dX0_laySecondWindow_27 : decode cX0_laySecondWindow 27 = .ok (.getfield 88, 3) := dec_2 oX0_laySecondWindow (of180 _) 0 88 rfl rfl
theorem dX0_laySecondWindow_30 : decode cX0_laySecondWindow 30 = .ok (.aload_n 0, 1) := dec_0 oX0_laySecondWindow (of42 _) rfl
theorem dX0_laySecondWindow_31 : decode cX0_laySecondWindow 31 = .ok (.getfield 26, 3) := dec_2 oX0_laySecondWindow (of180 _) 0 26 rfl rfl
theorem dX0_laySecondWindow_34 : decode cX0_laySecondWindow 34 = .ok (.iconst 1, 1) := dec_0 oX0_laySecondWindow (of4 _) rfl
theorem dX0_laySecondWindow_35 : decode cX0_laySecondWindow 35 = .ok (.invokevirtual 49, 3) := dec_2 oX0_laySecondWindow (of182 _) 0 49 rfl rfl
theorem dX0_laySecondWindow_38 : decode cX0_laySecondWindow 38 = .ok (.invokevirtual 73, 3) := dec_2 oX0_laySecondWindow (of182 _) 0 73 rfl rfl
theorem dX0_laySecondWindow_41 : decode cX0_laySecondWindow 41 = .ok (.return_, 1) := dec_0 oX0_laySecondWindow (of177 _) rfl
theorem dX0_laySecondQuery_0 : decode cX0_laySecondQuery 0 = .ok (.aload_n 0, 1) := dec_0 oX0_laySecondQuery (of42 _) rfl
theorem dX0_laySecondQuery_1 : decode cX0_laySecondQuery 1 = .ok (.getfield 22, 3) := dec_2 oX0_laySecondQuery (of180 _) 0 22 rfl rfl
theorem dX0_laySecondQuery_4 : decode cX0_laySecondQuery 4 = .ok (.iload_n 1, 1) := dec_0 oX0_laySecondQuery (of27 _) rfl
theorem dX0_laySecondQuery_5 : decode cX0_laySecondQuery 5 = .ok (.aload_n 0, 1) := dec_0 oX0_laySecondQuery (of42 _) rfl
theorem dX0_laySecondQuery_6 : decode cX0_laySecondQuery 6 = .ok (.getfield 12, 3) := dec_2 oX0_laySecondQuery (of180 _) 0 12 rfl rfl
theorem dX0_laySecondQuery_9 : decode cX0_laySecondQuery 9 = .ok (.getfield 88, 3) := dec_2 oX0_laySecondQuery (of180 _) 0 88 rfl rfl
theorem dX0_laySecondQuery_12 : decode cX0_laySecondQuery 12 = .ok (.invokevirtual 69, 3) := dec_2 oX0_laySecondQuery (of182 _) 0 69 rfl rfl
theorem dX0_laySecondQuery_15 : decode cX0_laySecondQuery 15 = .ok (.aload_n 0, 1) := dec_0 oX0_laySecondQuery (of42 _) rfl
theorem dX0_laySecondQuery_16 : decode cX0_laySecondQuery 16 = .ok (.getfield 12, 3) := dec_2 oX0_laySecondQuery (of180 _) 0 12 rfl rfl
theorem dX0_laySecondQuery_19 : decode cX0_laySecondQuery 19 = .ok (.aload_n 0, 1) := dec_0 oX0_laySecondQuery (of42 _) rfl
theorem dX0_laySecondQuery_20 : decode cX0_laySecondQuery 20 = .ok (.getfield 12, 3) := dec_2 oX0_laySecondQuery (of180 _) 0 12 rfl rfl
theorem dX0_laySecondQuery_23 : decode cX0_laySecondQuery 23 = .ok (.getfield 88, 3) := dec_2 oX0_laySecondQuery (of180 _) 0 88 rfl rfl
theorem dX0_laySecondQuery_26 : decode cX0_laySecondQuery 26 = .ok (.aload_n 0, 1) := dec_0 oX0_laySecondQuery (of42 _) rfl
theorem dX0_laySecondQuery_27 : decode cX0_laySecondQuery 27 = .ok (.getfield 26, 3) := dec_2 oX0_laySecondQuery (of180 _) 0 26 rfl rfl
theorem dX0_laySecondQuery_30 : decode cX0_laySecondQuery 30 = .ok (.iconst 1, 1) := dec_0 oX0_laySecondQuery (of4 _) rfl
theorem dX0_laySecondQuery_31 : decode cX0_laySecondQuery 31 = .ok (.invokevirtual 49, 3) := dec_2 oX0_laySecondQuery (of182 _) 0 49 rfl rfl
theorem dX0_laySecondQuery_34 : decode cX0_laySecondQuery 34 = .ok (.invokevirtual 73, 3) := dec_2 oX0_laySecondQuery (of182 _) 0 73 rfl rfl
theorem dX0_laySecondQuery_37 : decode cX0_laySecondQuery 37 = .ok (.return_, 1) := dec_0 oX0_laySecondQuery (of177 _) rfl
theorem dX1_runSearch_0 : decode cX1_runSearch 0 = .ok (.iconst 0, 1) := dec_0 oX1_runSearch (of3 _) rfl
theorem dX1_runSearch_1 : decode cX1_runSearch 1 = .ok (.istore_n 2, 1) := dec_0 oX1_runSearch (of61 _) rfl
theorem dX1_runSearch_2 : decode cX1_runSearch 2 = .ok (.iload_n 2, 1) := dec_0 oX1_runSearch (of28 _) rfl
theorem dX1_runSearch_3 : decode cX1_runSearch 3 = .ok (.bipush 9, 2) := dec_s1 oX1_runSearch (of16 _) 9 rfl (sg8p rfl) rfl
theorem dX1_runSearch_5 : decode cX1_runSearch 5 = .ok (.if_icmp .ge 16, 3) := dec_s2 oX1_runSearch (of162 _) 0 16 rfl (sg16p rfl) rfl
theorem dX1_runSearch_8 : decode cX1_runSearch 8 = .ok (.aload_n 0, 1) := dec_0 oX1_runSearch (of42 _) rfl
theorem dX1_runSearch_9 : decode cX1_runSearch 9 = .ok (.getfield 11, 3) := dec_2 oX1_runSearch (of180 _) 0 11 rfl rfl
theorem dX1_runSearch_12 : decode cX1_runSearch 12 = .ok (.iload_n 2, 1) := dec_0 oX1_runSearch (of28 _) rfl
theorem dX1_runSearch_13 : decode cX1_runSearch 13 = .ok (.iconst 0, 1) := dec_0 oX1_runSearch (of3 _) rfl
theorem dX1_runSearch_14 : decode cX1_runSearch 14 = .ok (.iastore, 1) := dec_0 oX1_runSearch (of79 _) rfl
theorem dX1_runSearch_15 : decode cX1_runSearch 15 = .ok (.iinc 2 1, 3) := dec_ii oX1_runSearch (of132 _) 2 1 rfl (sg8p rfl) rfl
theorem dX1_runSearch_18 : decode cX1_runSearch 18 = .ok (.goto (-16), 3) := dec_s2 oX1_runSearch (of167 _) 255 240 rfl (sg16n (k := 16) rfl) rfl
theorem dX1_runSearch_21 : decode cX1_runSearch 21 = .ok (.ldc 44, 2) := dec_1 oX1_runSearch (of18 _) 44 rfl rfl
theorem dX1_runSearch_23 : decode cX1_runSearch 23 = .ok (.istore_n 2, 1) := dec_0 oX1_runSearch (of61 _) rfl
theorem dX1_runSearch_24 : decode cX1_runSearch 24 = .ok (.aload_n 0, 1) := dec_0 oX1_runSearch (of42 _) rfl
theorem dX1_runSearch_25 : decode cX1_runSearch 25 = .ok (.getfield 28, 3) := dec_2 oX1_runSearch (of180 _) 0 28 rfl rfl
theorem dX1_runSearch_28 : decode cX1_runSearch 28 = .ok (.iload_n 1, 1) := dec_0 oX1_runSearch (of27 _) rfl
theorem dX1_runSearch_29 : decode cX1_runSearch 29 = .ok (.aload_n 0, 1) := dec_0 oX1_runSearch (of42 _) rfl
theorem dX1_runSearch_30 : decode cX1_runSearch 30 = .ok (.getfield 28, 3) := dec_2 oX1_runSearch (of180 _) 0 28 rfl rfl
theorem dX1_runSearch_33 : decode cX1_runSearch 33 = .ok (.getfield 45, 3) := dec_2 oX1_runSearch (of180 _) 0 45 rfl rfl
theorem dX1_runSearch_36 : decode cX1_runSearch 36 = .ok (.iconst 0, 1) := dec_0 oX1_runSearch (of3 _) rfl
theorem dX1_runSearch_37 : decode cX1_runSearch 37 = .ok (.invokevirtual 49, 3) := dec_2 oX1_runSearch (of182 _) 0 49 rfl rfl
theorem dX1_runSearch_40 : decode cX1_runSearch 40 = .ok (.invokevirtual 55, 3) := dec_2 oX1_runSearch (of182 _) 0 55 rfl rfl
theorem dX1_runSearch_43 : decode cX1_runSearch 43 = .ok (.iconst 0, 1) := dec_0 oX1_runSearch (of3 _) rfl
theorem dX1_runSearch_44 : decode cX1_runSearch 44 = .ok (.istore_n 3, 1) := dec_0 oX1_runSearch (of62 _) rfl
theorem dX1_runSearch_45 : decode cX1_runSearch 45 = .ok (.iload_n 3, 1) := dec_0 oX1_runSearch (of29 _) rfl
theorem dX1_runSearch_46 : decode cX1_runSearch 46 = .ok (.aload_n 0, 1) := dec_0 oX1_runSearch (of42 _) rfl
theorem dX1_runSearch_47 : decode cX1_runSearch 47 = .ok (.getfield 38, 3) := dec_2 oX1_runSearch (of180 _) 0 38 rfl rfl
theorem dX1_runSearch_50 : decode cX1_runSearch 50 = .ok (.getfield 59, 3) := dec_2 oX1_runSearch (of180 _) 0 59 rfl rfl
theorem dX1_runSearch_53 : decode cX1_runSearch 53 = .ok (.if_icmp .ge 71, 3) := dec_s2 oX1_runSearch (of162 _) 0 71 rfl (sg16p rfl) rfl
theorem dX1_runSearch_56 : decode cX1_runSearch 56 = .ok (.aload_n 0, 1) := dec_0 oX1_runSearch (of42 _) rfl
theorem dX1_runSearch_57 : decode cX1_runSearch 57 = .ok (.getfield 38, 3) := dec_2 oX1_runSearch (of180 _) 0 38 rfl rfl
theorem dX1_runSearch_60 : decode cX1_runSearch 60 = .ok (.iload_n 3, 1) := dec_0 oX1_runSearch (of29 _) rfl
theorem dX1_runSearch_61 : decode cX1_runSearch 61 = .ok (.aload_n 0, 1) := dec_0 oX1_runSearch (of42 _) rfl
theorem dX1_runSearch_62 : decode cX1_runSearch 62 = .ok (.getfield 43, 3) := dec_2 oX1_runSearch (of180 _) 0 43 rfl rfl
theorem dX1_runSearch_65 : decode cX1_runSearch 65 = .ok (.iload_n 1, 1) := dec_0 oX1_runSearch (of27 _) rfl
theorem dX1_runSearch_66 : decode cX1_runSearch 66 = .ok (.invokevirtual 65, 3) := dec_2 oX1_runSearch (of182 _) 0 65 rfl rfl
theorem dX1_runSearch_69 : decode cX1_runSearch 69 = .ok (.invokevirtual 70, 3) := dec_2 oX1_runSearch (of182 _) 0 70 rfl rfl
theorem dX1_runSearch_72 : decode cX1_runSearch 72 = .ok (.ifCond .eq 46, 3) := dec_s2 oX1_runSearch (of153 _) 0 46 rfl (sg16p rfl) rfl
theorem dX1_runSearch_75 : decode cX1_runSearch 75 = .ok (.aload_n 0, 1) := dec_0 oX1_runSearch (of42 _) rfl
theorem dX1_runSearch_76 : decode cX1_runSearch 76 = .ok (.getfield 28, 3) := dec_2 oX1_runSearch (of180 _) 0 28 rfl rfl
theorem dX1_runSearch_79 : decode cX1_runSearch 79 = .ok (.iload_n 3, 1) := dec_0 oX1_runSearch (of29 _) rfl
theorem dX1_runSearch_80 : decode cX1_runSearch 80 = .ok (.invokevirtual 74, 3) := dec_2 oX1_runSearch (of182 _) 0 74 rfl rfl
theorem dX1_runSearch_83 : decode cX1_runSearch 83 = .ok (.aload_n 0, 1) := dec_0 oX1_runSearch (of42 _) rfl
theorem dX1_runSearch_84 : decode cX1_runSearch 84 = .ok (.getfield 28, 3) := dec_2 oX1_runSearch (of180 _) 0 28 rfl rfl
theorem dX1_runSearch_87 : decode cX1_runSearch 87 = .ok (.getfield 78, 3) := dec_2 oX1_runSearch (of180 _) 0 78 rfl rfl
theorem dX1_runSearch_90 : decode cX1_runSearch 90 = .ok (.iload_n 2, 1) := dec_0 oX1_runSearch (of28 _) rfl
theorem dX1_runSearch_91 : decode cX1_runSearch 91 = .ok (.invokevirtual 82, 3) := dec_2 oX1_runSearch (of182 _) 0 82 rfl rfl
theorem dX1_runSearch_94 : decode cX1_runSearch 94 = .ok (.istore 4, 2) := dec_1 oX1_runSearch (of54 _) 4 rfl rfl
theorem dX1_runSearch_96 : decode cX1_runSearch 96 = .ok (.aload_n 0, 1) := dec_0 oX1_runSearch (of42 _) rfl
theorem dX1_runSearch_97 : decode cX1_runSearch 97 = .ok (.iload 4, 2) := dec_1 oX1_runSearch (of21 _) 4 rfl rfl
theorem dX1_runSearch_99 : decode cX1_runSearch 99 = .ok (.invokevirtual 87, 3) := dec_2 oX1_runSearch (of182 _) 0 87 rfl rfl
theorem dX1_runSearch_102 : decode cX1_runSearch 102 = .ok (.iload 4, 2) := dec_1 oX1_runSearch (of21 _) 4 rfl rfl
theorem dX1_runSearch_104 : decode cX1_runSearch 104 = .ok (.ifCond .ne 14, 3) := dec_s2 oX1_runSearch (of154 _) 0 14 rfl (sg16p rfl) rfl
theorem dX1_runSearch_107 : decode cX1_runSearch 107 = .ok (.aload_n 0, 1) := dec_0 oX1_runSearch (of42 _) rfl
theorem dX1_runSearch_108 : decode cX1_runSearch 108 = .ok (.getfield 28, 3) := dec_2 oX1_runSearch (of180 _) 0 28 rfl rfl
theorem dX1_runSearch_111 : decode cX1_runSearch 111 = .ok (.getfield 78, 3) := dec_2 oX1_runSearch (of180 _) 0 78 rfl rfl
theorem dX1_runSearch_114 : decode cX1_runSearch 114 = .ok (.invokevirtual 90, 3) := dec_2 oX1_runSearch (of182 _) 0 90 rfl rfl
theorem dX1_runSearch_117 : decode cX1_runSearch 117 = .ok (.istore_n 2, 1) := dec_0 oX1_runSearch (of61 _) rfl
theorem dX1_runSearch_118 : decode cX1_runSearch 118 = .ok (.iinc 3 1, 3) := dec_ii oX1_runSearch (of132 _) 3 1 rfl (sg8p rfl) rfl
theorem dX1_runSearch_121 : decode cX1_runSearch 121 = .ok (.goto (-76), 3) := dec_s2 oX1_runSearch (of167 _) 255 180 rfl (sg16n (k := 76) rfl) rfl
theorem dX1_runSearch_124 : decode cX1_runSearch 124 = .ok (.return_, 1) := dec_0 oX1_runSearch (of177 _) rfl
theorem dX1_addToTally_0 : decode cX1_addToTally 0 = .ok (.aload_n 0, 1) := dec_0 oX1_addToTally (of42 _) rfl
theorem dX1_addToTally_1 : decode cX1_addToTally 1 = .ok (.getfield 11, 3) := dec_2 oX1_addToTally (of180 _) 0 11 rfl rfl
theorem dX1_addToTally_4 : decode cX1_addToTally 4 = .ok (.iconst 0, 1) := dec_0 oX1_addToTally (of3 _) rfl
theorem dX1_addToTally_5 : decode cX1_addToTally 5 = .ok (.dup2, 1) := dec_0 oX1_addToTally (of92 _) rfl
theorem dX1_addToTally_6 : decode cX1_addToTally 6 = .ok (.iaload, 1) := dec_0 oX1_addToTally (of46 _) rfl
theorem dX1_addToTally_7 : decode cX1_addToTally 7 = .ok (.iconst 1, 1) := dec_0 oX1_addToTally (of4 _) rfl
theorem dX1_addToTally_8 : decode cX1_addToTally 8 = .ok (.iadd, 1) := dec_0 oX1_addToTally (of96 _) rfl
theorem dX1_addToTally_9 : decode cX1_addToTally 9 = .ok (.iastore, 1) := dec_0 oX1_addToTally (of79 _) rfl
theorem dX1_addToTally_10 : decode cX1_addToTally 10 = .ok (.aload_n 0, 1) := dec_0 oX1_addToTally (of42 _) rfl
theorem dX1_addToTally_11 : decode cX1_addToTally 11 = .ok (.getfield 11, 3) := dec_2 oX1_addToTally (of180 _) 0 11 rfl rfl
theorem dX1_addToTally_14 : decode cX1_addToTally 14 = .ok (.bipush 6, 2) := dec_s1 oX1_addToTally (of16 _) 6 rfl (sg8p rfl) rfl
theorem dX1_addToTally_16 : decode cX1_addToTally 16 = .ok (.dup2, 1) := dec_0 oX1_addToTally (of92 _) rfl
theorem dX1_addToTally_17 : decode cX1_addToTally 17 = .ok (.iaload, 1) := dec_0 oX1_addToTally (of46 _) rfl
theorem dX1_addToTally_18 : decode cX1_addToTally 18 = .ok (.aload_n 0, 1) := dec_0 oX1_addToTally (of42 _) rfl
theorem dX1_addToTally_19 : decode cX1_addToTally 19 = .ok (.getfield 28, 3) := dec_2 oX1_addToTally (of180 _) 0 28 rfl rfl
theorem dX1_addToTally_22 : decode cX1_addToTally 22 = .ok (.getfield 78, 3) := dec_2 oX1_addToTally (of180 _) 0 78 rfl rfl
theorem dX1_addToTally_25 : decode cX1_addToTally 25 = .ok (.getfield 94, 3) := dec_2 oX1_addToTally (of180 _) 0 94 rfl rfl
theorem dX1_addToTally_28 : decode cX1_addToTally 28 = .ok (.iadd, 1) := dec_0 oX1_addToTally (of96 _) rfl
theorem dX1_addToTally_29 : decode cX1_addToTally 29 = .ok (.iastore, 1) := dec_0 oX1_addToTally (of79 _) rfl
theorem dX1_addToTally_30 : decode cX1_addToTally 30 = .ok (.iload_n 1, 1) := dec_0 oX1_addToTally (of27 _) rfl
theorem dX1_addToTally_31 : decode cX1_addToTally 31 = .ok (.ifCond .ne 17, 3) := dec_s2 oX1_addToTally (of154 _) 0 17 rfl (sg16p rfl) rfl
theorem dX1_addToTally_34 : decode cX1_addToTally 34 = .ok (.aload_n 0, 1) := dec_0 oX1_addToTally (of42 _) rfl
theorem dX1_addToTally_35 : decode cX1_addToTally 35 = .ok (.getfield 11, 3) := dec_2 oX1_addToTally (of180 _) 0 11 rfl rfl
theorem dX1_addToTally_38 : decode cX1_addToTally 38 = .ok (.bipush 7, 2) := dec_s1 oX1_addToTally (of16 _) 7 rfl (sg8p rfl) rfl
theorem dX1_addToTally_40 : decode cX1_addToTally 40 = .ok (.dup2, 1) := dec_0 oX1_addToTally (of92 _) rfl
theorem dX1_addToTally_41 : decode cX1_addToTally 41 = .ok (.iaload, 1) := dec_0 oX1_addToTally (of46 _) rfl
theorem dX1_addToTally_42 : decode cX1_addToTally 42 = .ok (.iconst 1, 1) := dec_0 oX1_addToTally (of4 _) rfl
theorem dX1_addToTally_43 : decode cX1_addToTally 43 = .ok (.iadd, 1) := dec_0 oX1_addToTally (of96 _) rfl
theorem dX1_addToTally_44 : decode cX1_addToTally 44 = .ok (.iastore, 1) := dec_0 oX1_addToTally (of79 _) rfl
theorem dX1_addToTally_45 : decode cX1_addToTally 45 = .ok (.goto 23, 3) := dec_s2 oX1_addToTally (of167 _) 0 23 rfl (sg16p rfl) rfl
theorem dX1_addToTally_48 : decode cX1_addToTally 48 = .ok (.iload_n 1, 1) := dec_0 oX1_addToTally (of27 _) rfl
theorem dX1_addToTally_49 : decode cX1_addToTally 49 = .ok (.iconst 1, 1) := dec_0 oX1_addToTally (of4 _) rfl
theorem dX1_addToTally_50 : decode cX1_addToTally 50 = .ok (.if_icmp .lt 18, 3) := dec_s2 oX1_addToTally (of161 _) 0 18 rfl (sg16p rfl) rfl
theorem dX1_addToTally_53 : decode cX1_addToTally 53 = .ok (.iload_n 1, 1) := dec_0 oX1_addToTally (of27 _) rfl
theorem dX1_addToTally_54 : decode cX1_addToTally 54 = .ok (.iconst 5, 1) := dec_0 oX1_addToTally (of8 _) rfl
theorem dX1_addToTally_55 : decode cX1_addToTally 55 = .ok (.if_icmp .gt 13, 3) := dec_s2 oX1_addToTally (of163 _) 0 13 rfl (sg16p rfl) rfl
theorem dX1_addToTally_58 : decode cX1_addToTally 58 = .ok (.aload_n 0, 1) := dec_0 oX1_addToTally (of42 _) rfl
theorem dX1_addToTally_59 : decode cX1_addToTally 59 = .ok (.getfield 11, 3) := dec_2 oX1_addToTally (of180 _) 0 11 rfl rfl
theorem dX1_addToTally_62 : decode cX1_addToTally 62 = .ok (.iload_n 1, 1) := dec_0 oX1_addToTally (of27 _) rfl
theorem dX1_addToTally_63 : decode cX1_addToTally 63 = .ok (.dup2, 1) := dec_0 oX1_addToTally (of92 _) rfl
theorem dX1_addToTally_64 : decode cX1_addToTally 64 = .ok (.iaload, 1) := dec_0 oX1_addToTally (of46 _) rfl
theorem dX1_addToTally_65 : decode cX1_addToTally 65 = .ok (.iconst 1, 1) := dec_0 oX1_addToTally (of4 _) rfl
theorem dX1_addToTally_66 : decode cX1_addToTally 66 = .ok (.iadd, 1) := dec_0 oX1_addToTally (of96 _) rfl
theorem dX1_addToTally_67 : decode cX1_addToTally 67 = .ok (.iastore, 1) := dec_0 oX1_addToTally (of79 _) rfl
theorem dX1_addToTally_68 : decode cX1_addToTally 68 = .ok (.iload_n 1, 1) := dec_0 oX1_addToTally (of27 _) rfl
theorem dX1_addToTally_69 : decode cX1_addToTally 69 = .ok (.iconst 4, 1) := dec_0 oX1_addToTally (of7 _) rfl
theorem dX1_addToTally_70 : decode cX1_addToTally 70 = .ok (.if_icmp .ne 25, 3) := dec_s2 oX1_addToTally (of160 _) 0 25 rfl (sg16p rfl) rfl
theorem dX1_addToTally_73 : decode cX1_addToTally 73 = .ok (.aload_n 0, 1) := dec_0 oX1_addToTally (of42 _) rfl
theorem dX1_addToTally_74 : decode cX1_addToTally 74 = .ok (.getfield 11, 3) := dec_2 oX1_addToTally (of180 _) 0 11 rfl rfl
theorem dX1_addToTally_77 : decode cX1_addToTally 77 = .ok (.bipush 8, 2) := dec_s1 oX1_addToTally (of16 _) 8 rfl (sg8p rfl) rfl
theorem dX1_addToTally_79 : decode cX1_addToTally 79 = .ok (.dup2, 1) := dec_0 oX1_addToTally (of92 _) rfl
theorem dX1_addToTally_80 : decode cX1_addToTally 80 = .ok (.iaload, 1) := dec_0 oX1_addToTally (of46 _) rfl
theorem dX1_addToTally_81 : decode cX1_addToTally 81 = .ok (.aload_n 0, 1) := dec_0 oX1_addToTally (of42 _) rfl
theorem dX1_addToTally_82 : decode cX1_addToTally 82 = .ok (.getfield 28, 3) := dec_2 oX1_addToTally (of180 _) 0 28 rfl rfl
theorem dX1_addToTally_85 : decode cX1_addToTally 85 = .ok (.getfield 78, 3) := dec_2 oX1_addToTally (of180 _) 0 78 rfl rfl
theorem dX1_addToTally_88 : decode cX1_addToTally 88 = .ok (.getfield 97, 3) := dec_2 oX1_addToTally (of180 _) 0 97 rfl rfl
theorem dX1_addToTally_91 : decode cX1_addToTally 91 = .ok (.iconst 1, 1) := dec_0 oX1_addToTally (of4 _) rfl
theorem dX1_addToTally_92 : decode cX1_addToTally 92 = .ok (.iadd, 1) := dec_0 oX1_addToTally (of96 _) rfl
theorem dX1_addToTally_93 : decode cX1_addToTally 93 = .ok (.iadd, 1) := dec_0 oX1_addToTally (of96 _) rfl
theorem dX1_addToTally_94 : decode cX1_addToTally 94 = .ok (.iastore, 1) := dec_0 oX1_addToTally (of79 _) rfl
theorem dX1_addToTally_95 : decode cX1_addToTally 95 = .ok (.return_, 1) := dec_0 oX1_addToTally (of177 _) rfl
theorem dX1_findBest_0 : decode cX1_findBest 0 = .ok (.aload_n 0, 1) := dec_0 oX1_findBest (of42 _) rfl
theorem dX1_findBest_1 : decode cX1_findBest 1 = .ok (.bipush (-2), 2) := dec_s1 oX1_findBest (of16 _) 254 rfl (sg8n (k := 2) rfl) rfl
theorem dX1_findBest_3 : decode cX1_findBest 3 = .ok (.putfield 100, 3) := dec_2 oX1_findBest (of181 _) 0 100 rfl rfl
theorem dX1_findBest_6 : decode cX1_findBest 6 = .ok (.aload_n 0, 1) := dec_0 oX1_findBest (of42 _) rfl
theorem dX1_findBest_7 : decode cX1_findBest 7 = .ok (.bipush (-2), 2) := dec_s1 oX1_findBest (of16 _) 254 rfl (sg8n (k := 2) rfl) rfl
theorem dX1_findBest_9 : decode cX1_findBest 9 = .ok (.putfield 103, 3) := dec_2 oX1_findBest (of181 _) 0 103 rfl rfl
theorem dX1_findBest_12 : decode cX1_findBest 12 = .ok (.ldc 44, 2) := dec_1 oX1_findBest (of18 _) 44 rfl rfl
theorem dX1_findBest_14 : decode cX1_findBest 14 = .ok (.istore_n 3, 1) := dec_0 oX1_findBest (of62 _) rfl
theorem dX1_findBest_15 : decode cX1_findBest 15 = .ok (.aload_n 0, 1) := dec_0 oX1_findBest (of42 _) rfl
theorem dX1_findBest_16 : decode cX1_findBest 16 = .ok (.getfield 28, 3) := dec_2 oX1_findBest (of180 _) 0 28 rfl rfl
theorem dX1_findBest_19 : decode cX1_findBest 19 = .ok (.iload_n 1, 1) := dec_0 oX1_findBest (of27 _) rfl
theorem dX1_findBest_20 : decode cX1_findBest 20 = .ok (.iload_n 2, 1) := dec_0 oX1_findBest (of28 _) rfl
theorem dX1_findBest_21 : decode cX1_findBest 21 = .ok (.invokevirtual 55, 3) := dec_2 oX1_findBest (of182 _) 0 55 rfl rfl
theorem dX1_findBest_24 : decode cX1_findBest 24 = .ok (.iconst 0, 1) := dec_0 oX1_findBest (of3 _) rfl
theorem dX1_findBest_25 : decode cX1_findBest 25 = .ok (.istore 4, 2) := dec_1 oX1_findBest (of54 _) 4 rfl rfl
theorem dX1_findBest_27 : decode cX1_findBest 27 = .ok (.iload 4, 2) := dec_1 oX1_findBest (of21 _) 4 rfl rfl
theorem dX1_findBest_29 : decode cX1_findBest 29 = .ok (.aload_n 0, 1) := dec_0 oX1_findBest (of42 _) rfl
theorem dX1_findBest_30 : decode cX1_findBest 30 = .ok (.getfield 38, 3) := dec_2 oX1_findBest (of180 _) 0 38 rfl rfl
theorem dX1_findBest_33 : decode cX1_findBest 33 = .ok (.getfield 59, 3) := dec_2 oX1_findBest (of180 _) 0 59 rfl rfl
theorem dX1_findBest_36 : decode cX1_findBest 36 = .ok (.if_icmp .ge 74, 3) := dec_s2 oX1_findBest (of162 _) 0 74 rfl (sg16p rfl) rfl
theorem dX1_findBest_39 : decode cX1_findBest 39 = .ok (.aload_n 0, 1) := dec_0 oX1_findBest (of42 _) rfl
theorem dX1_findBest_40 : decode cX1_findBest 40 = .ok (.getfield 38, 3) := dec_2 oX1_findBest (of180 _) 0 38 rfl rfl
theorem dX1_findBest_43 : decode cX1_findBest 43 = .ok (.iload 4, 2) := dec_1 oX1_findBest (of21 _) 4 rfl rfl
theorem dX1_findBest_45 : decode cX1_findBest 45 = .ok (.aload_n 0, 1) := dec_0 oX1_findBest (of42 _) rfl
theorem dX1_findBest_46 : decode cX1_findBest 46 = .ok (.getfield 43, 3) := dec_2 oX1_findBest (of180 _) 0 43 rfl rfl
theorem dX1_findBest_49 : decode cX1_findBest 49 = .ok (.iload_n 1, 1) := dec_0 oX1_findBest (of27 _) rfl
theorem dX1_findBest_50 : decode cX1_findBest 50 = .ok (.invokevirtual 65, 3) := dec_2 oX1_findBest (of182 _) 0 65 rfl rfl
theorem dX1_findBest_53 : decode cX1_findBest 53 = .ok (.invokevirtual 70, 3) := dec_2 oX1_findBest (of182 _) 0 70 rfl rfl
theorem dX1_findBest_56 : decode cX1_findBest 56 = .ok (.ifCond .eq 48, 3) := dec_s2 oX1_findBest (of153 _) 0 48 rfl (sg16p rfl) rfl
theorem dX1_findBest_59 : decode cX1_findBest 59 = .ok (.aload_n 0, 1) := dec_0 oX1_findBest (of42 _) rfl
theorem dX1_findBest_60 : decode cX1_findBest 60 = .ok (.getfield 28, 3) := dec_2 oX1_findBest (of180 _) 0 28 rfl rfl
theorem dX1_findBest_63 : decode cX1_findBest 63 = .ok (.iload 4, 2) := dec_1 oX1_findBest (of21 _) 4 rfl rfl
theorem dX1_findBest_65 : decode cX1_findBest 65 = .ok (.invokevirtual 74, 3) := dec_2 oX1_findBest (of182 _) 0 74 rfl rfl
theorem dX1_findBest_68 : decode cX1_findBest 68 = .ok (.aload_n 0, 1) := dec_0 oX1_findBest (of42 _) rfl
theorem dX1_findBest_69 : decode cX1_findBest 69 = .ok (.getfield 28, 3) := dec_2 oX1_findBest (of180 _) 0 28 rfl rfl
theorem dX1_findBest_72 : decode cX1_findBest 72 = .ok (.getfield 78, 3) := dec_2 oX1_findBest (of180 _) 0 78 rfl rfl
theorem dX1_findBest_75 : decode cX1_findBest 75 = .ok (.iload_n 3, 1) := dec_0 oX1_findBest (of29 _) rfl
theorem dX1_findBest_76 : decode cX1_findBest 76 = .ok (.invokevirtual 106, 3) := dec_2 oX1_findBest (of182 _) 0 106 rfl rfl
theorem dX1_findBest_79 : decode cX1_findBest 79 = .ok (.ifCond .eq 25, 3) := dec_s2 oX1_findBest (of153 _) 0 25 rfl (sg16p rfl) rfl
theorem dX1_findBest_82 : decode cX1_findBest 82 = .ok (.aload_n 0, 1) := dec_0 oX1_findBest (of42 _) rfl
theorem dX1_findBest_83 : decode cX1_findBest 83 = .ok (.getfield 28, 3) := dec_2 oX1_findBest (of180 _) 0 28 rfl rfl
theorem dX1_findBest_86 : decode cX1_findBest 86 = .ok (.getfield 78, 3) := dec_2 oX1_findBest (of180 _) 0 78 rfl rfl
theorem dX1_findBest_89 : decode cX1_findBest 89 = .ok (.invokevirtual 90, 3) := dec_2 oX1_findBest (of182 _) 0 90 rfl rfl
theorem dX1_findBest_92 : decode cX1_findBest 92 = .ok (.istore_n 3, 1) := dec_0 oX1_findBest (of62 _) rfl
theorem dX1_findBest_93 : decode cX1_findBest 93 = .ok (.aload_n 0, 1) := dec_0 oX1_findBest (of42 _) rfl
theorem dX1_findBest_94 : decode cX1_findBest 94 = .ok (.iload 4, 2) := dec_1 oX1_findBest (of21 _) 4 rfl rfl
theorem dX1_findBest_96 : decode cX1_findBest 96 = .ok (.putfield 100, 3) := dec_2 oX1_findBest (of181 _) 0 100 rfl rfl
theorem dX1_findBest_99 : decode cX1_findBest 99 = .ok (.aload_n 0, 1) := dec_0 oX1_findBest (of42 _) rfl
theorem dX1_findBest_100 : decode cX1_findBest 100 = .ok (.iload_n 3, 1) := dec_0 oX1_findBest (of29 _) rfl
theorem dX1_findBest_101 : decode cX1_findBest 101 = .ok (.putfield 103, 3) := dec_2 oX1_findBest (of181 _) 0 103 rfl rfl
theorem dX1_findBest_104 : decode cX1_findBest 104 = .ok (.iinc 4 1, 3) := dec_ii oX1_findBest (of132 _) 4 1 rfl (sg8p rfl) rfl
theorem dX1_findBest_107 : decode cX1_findBest 107 = .ok (.goto (-80), 3) := dec_s2 oX1_findBest (of167 _) 255 176 rfl (sg16n (k := 80) rfl) rfl
theorem dX1_findBest_110 : decode cX1_findBest 110 = .ok (.return_, 1) := dec_0 oX1_findBest (of177 _) rfl
theorem dX1_neededBand_0 : decode cX1_neededBand 0 = .ok (.iconst 0, 1) := dec_0 oX1_neededBand (of3 _) rfl
theorem dX1_neededBand_1 : decode cX1_neededBand 1 = .ok (.istore_n 3, 1) := dec_0 oX1_neededBand (of62 _) rfl
theorem dX1_neededBand_2 : decode cX1_neededBand 2 = .ok (.iload_n 3, 1) := dec_0 oX1_neededBand (of29 _) rfl
theorem dX1_neededBand_3 : decode cX1_neededBand 3 = .ok (.aload_n 0, 1) := dec_0 oX1_neededBand (of42 _) rfl
theorem dX1_neededBand_4 : decode cX1_neededBand 4 = .ok (.getfield 43, 3) := dec_2 oX1_neededBand (of180 _) 0 43 rfl rfl
theorem dX1_neededBand_7 : decode cX1_neededBand 7 = .ok (.iload_n 1, 1) := dec_0 oX1_neededBand (of27 _) rfl
theorem dX1_neededBand_8 : decode cX1_neededBand 8 = .ok (.invokevirtual 65, 3) := dec_2 oX1_neededBand (of182 _) 0 65 rfl rfl
theorem dX1_neededBand_11 : decode cX1_neededBand 11 = .ok (.if_icmp .ge 25, 3) := dec_s2 oX1_neededBand (of162 _) 0 25 rfl (sg16p rfl) rfl
theorem dX1_neededBand_14 : decode cX1_neededBand 14 = .ok (.aload_n 0, 1) := dec_0 oX1_neededBand (of42 _) rfl
theorem dX1_neededBand_15 : decode cX1_neededBand 15 = .ok (.iload_n 1, 1) := dec_0 oX1_neededBand (of27 _) rfl
theorem dX1_neededBand_16 : decode cX1_neededBand 16 = .ok (.iload_n 3, 1) := dec_0 oX1_neededBand (of29 _) rfl
theorem dX1_neededBand_17 : decode cX1_neededBand 17 = .ok (.invokevirtual 110, 3) := dec_2 oX1_neededBand (of182 _) 0 110 rfl rfl
theorem dX1_neededBand_20 : decode cX1_neededBand 20 = .ok (.aload_n 0, 1) := dec_0 oX1_neededBand (of42 _) rfl
theorem dX1_neededBand_21 : decode cX1_neededBand 21 = .ok (.getfield 100, 3) := dec_2 oX1_neededBand (of180 _) 0 100 rfl rfl
theorem dX1_neededBand_24 : decode cX1_neededBand 24 = .ok (.iload_n 2, 1) := dec_0 oX1_neededBand (of28 _) rfl
theorem dX1_neededBand_25 : decode cX1_neededBand 25 = .ok (.if_icmp .ne 5, 3) := dec_s2 oX1_neededBand (of160 _) 0 5 rfl (sg16p rfl) rfl
theorem dX1_neededBand_28 : decode cX1_neededBand 28 = .ok (.iload_n 3, 1) := dec_0 oX1_neededBand (of29 _) rfl
theorem dX1_neededBand_29 : decode cX1_neededBand 29 = .ok (.ireturn, 1) := dec_0 oX1_neededBand (of172 _) rfl
theorem dX1_neededBand_30 : decode cX1_neededBand 30 = .ok (.iinc 3 1, 3) := dec_ii oX1_neededBand (of132 _) 3 1 rfl (sg8p rfl) rfl
theorem dX1_neededBand_33 : decode cX1_neededBand 33 = .ok (.goto (-31), 3) := dec_s2 oX1_neededBand (of167 _) 255 225 rfl (sg16n (k := 31) rfl) rfl
theorem dX1_neededBand_36 : decode cX1_neededBand 36 = .ok (.bipush (-2), 2) := dec_s1 oX1_neededBand (of16 _) 254 rfl (sg8n (k := 2) rfl) rfl
theorem dX1_neededBand_38 : decode cX1_neededBand 38 = .ok (.ireturn, 1) := dec_0 oX1_neededBand (of172 _) rfl
theorem dX1_scan_0 : decode cX1_scan 0 = .ok (.aload_n 0, 1) := dec_0 oX1_scan (of42 _) rfl
theorem dX1_scan_1 : decode cX1_scan 1 = .ok (.getfield 28, 3) := dec_2 oX1_scan (of180 _) 0 28 rfl rfl
theorem dX1_scan_4 : decode cX1_scan 4 = .ok (.iload_n 1, 1) := dec_0 oX1_scan (of27 _) rfl
theorem dX1_scan_5 : decode cX1_scan 5 = .ok (.aload_n 0, 1) := dec_0 oX1_scan (of42 _) rfl
theorem dX1_scan_6 : decode cX1_scan 6 = .ok (.getfield 28, 3) := dec_2 oX1_scan (of180 _) 0 28 rfl rfl
theorem dX1_scan_9 : decode cX1_scan 9 = .ok (.getfield 45, 3) := dec_2 oX1_scan (of180 _) 0 45 rfl rfl
theorem dX1_scan_12 : decode cX1_scan 12 = .ok (.iconst 0, 1) := dec_0 oX1_scan (of3 _) rfl
theorem dX1_scan_13 : decode cX1_scan 13 = .ok (.invokevirtual 49, 3) := dec_2 oX1_scan (of182 _) 0 49 rfl rfl
theorem dX1_scan_16 : decode cX1_scan 16 = .ok (.invokevirtual 55, 3) := dec_2 oX1_scan (of182 _) 0 55 rfl rfl
theorem dX1_scan_19 : decode cX1_scan 19 = .ok (.iconst 0, 1) := dec_0 oX1_scan (of3 _) rfl
theorem dX1_scan_20 : decode cX1_scan 20 = .ok (.istore_n 2, 1) := dec_0 oX1_scan (of61 _) rfl
theorem dX1_scan_21 : decode cX1_scan 21 = .ok (.iload_n 2, 1) := dec_0 oX1_scan (of28 _) rfl
theorem dX1_scan_22 : decode cX1_scan 22 = .ok (.sipush 160, 3) := dec_s2 oX1_scan (of17 _) 0 160 rfl (sg16p rfl) rfl
theorem dX1_scan_25 : decode cX1_scan 25 = .ok (.if_icmp .ge 59, 3) := dec_s2 oX1_scan (of162 _) 0 59 rfl (sg16p rfl) rfl
theorem dX1_scan_28 : decode cX1_scan 28 = .ok (.aload_n 0, 1) := dec_0 oX1_scan (of42 _) rfl
theorem dX1_scan_29 : decode cX1_scan 29 = .ok (.getfield 15, 3) := dec_2 oX1_scan (of180 _) 0 15 rfl rfl
theorem dX1_scan_32 : decode cX1_scan 32 = .ok (.iload_n 2, 1) := dec_0 oX1_scan (of28 _) rfl
theorem dX1_scan_33 : decode cX1_scan 33 = .ok (.iconst (-1), 1) := dec_0 oX1_scan (of2 _) rfl
theorem dX1_scan_34 : decode cX1_scan 34 = .ok (.iastore, 1) := dec_0 oX1_scan (of79 _) rfl
theorem dX1_scan_35 : decode cX1_scan 35 = .ok (.aload_n 0, 1) := dec_0 oX1_scan (of42 _) rfl
theorem dX1_scan_36 : decode cX1_scan 36 = .ok (.getfield 38, 3) := dec_2 oX1_scan (of180 _) 0 38 rfl rfl
theorem dX1_scan_39 : decode cX1_scan 39 = .ok (.iload_n 2, 1) := dec_0 oX1_scan (of28 _) rfl
theorem dX1_scan_40 : decode cX1_scan 40 = .ok (.aload_n 0, 1) := dec_0 oX1_scan (of42 _) rfl
theorem dX1_scan_41 : decode cX1_scan 41 = .ok (.getfield 43, 3) := dec_2 oX1_scan (of180 _) 0 43 rfl rfl
theorem dX1_scan_44 : decode cX1_scan 44 = .ok (.iload_n 1, 1) := dec_0 oX1_scan (of27 _) rfl
theorem dX1_scan_45 : decode cX1_scan 45 = .ok (.invokevirtual 65, 3) := dec_2 oX1_scan (of182 _) 0 65 rfl rfl
theorem dX1_scan_48 : decode cX1_scan 48 = .ok (.invokevirtual 70, 3) := dec_2 oX1_scan (of182 _) 0 70 rfl rfl
theorem dX1_scan_51 : decode cX1_scan 51 = .ok (.ifCond .eq 27, 3) := dec_s2 oX1_scan (of153 _) 0 27 rfl (sg16p rfl) rfl
theorem dX1_scan_54 : decode cX1_scan 54 = .ok (.aload_n 0, 1) := dec_0 oX1_scan (of42 _) rfl
theorem dX1_scan_55 : decode cX1_scan 55 = .ok (.getfield 28, 3) := dec_2 oX1_scan (of180 _) 0 28 rfl rfl
theorem dX1_scan_58 : decode cX1_scan 58 = .ok (.iload_n 2, 1) := dec_0 oX1_scan (of28 _) rfl
theorem dX1_scan_59 : decode cX1_scan 59 = .ok (.invokevirtual 74, 3) := dec_2 oX1_scan (of182 _) 0 74 rfl rfl
theorem dX1_scan_62 : decode cX1_scan 62 = .ok (.aload_n 0, 1) := dec_0 oX1_scan (of42 _) rfl
theorem dX1_scan_63 : decode cX1_scan 63 = .ok (.getfield 15, 3) := dec_2 oX1_scan (of180 _) 0 15 rfl rfl
theorem dX1_scan_66 : decode cX1_scan 66 = .ok (.iload_n 2, 1) := dec_0 oX1_scan (of28 _) rfl
theorem dX1_scan_67 : decode cX1_scan 67 = .ok (.aload_n 0, 1) := dec_0 oX1_scan (of42 _) rfl
theorem dX1_scan_68 : decode cX1_scan 68 = .ok (.getfield 28, 3) := dec_2 oX1_scan (of180 _) 0 28 rfl rfl
theorem dX1_scan_71 : decode cX1_scan 71 = .ok (.getfield 78, 3) := dec_2 oX1_scan (of180 _) 0 78 rfl rfl
theorem dX1_scan_74 : decode cX1_scan 74 = .ok (.invokevirtual 113, 3) := dec_2 oX1_scan (of182 _) 0 113 rfl rfl
theorem dX1_scan_77 : decode cX1_scan 77 = .ok (.iastore, 1) := dec_0 oX1_scan (of79 _) rfl
theorem dX1_scan_78 : decode cX1_scan 78 = .ok (.iinc 2 1, 3) := dec_ii oX1_scan (of132 _) 2 1 rfl (sg8p rfl) rfl
theorem dX1_scan_81 : decode cX1_scan 81 = .ok (.goto (-60), 3) := dec_s2 oX1_scan (of167 _) 255 196 rfl (sg16n (k := 60) rfl) rfl
theorem dX1_scan_84 : decode cX1_scan 84 = .ok (.return_, 1) := dec_0 oX1_scan (of177 _) rfl
theorem dX1_scannedDistance_0 : decode cX1_scannedDistance 0 = .ok (.iload_n 1, 1) := dec_0 oX1_scannedDistance (of27 _) rfl
theorem dX1_scannedDistance_1 : decode cX1_scannedDistance 1 = .ok (.ifCond .lt 19, 3) := dec_s2 oX1_scannedDistance (of155 _) 0 19 rfl (sg16p rfl) rfl
theorem dX1_scannedDistance_4 : decode cX1_scannedDistance 4 = .ok (.iload_n 1, 1) := dec_0 oX1_scannedDistance (of27 _) rfl
theorem dX1_scannedDistance_5 : decode cX1_scannedDistance 5 = .ok (.sipush 160, 3) := dec_s2 oX1_scannedDistance (of17 _) 0 160 rfl (sg16p rfl) rfl
theorem dX1_scannedDistance_8 : decode cX1_scannedDistance 8 = .ok (.if_icmp .ge 12, 3) := dec_s2 oX1_scannedDistance (of162 _) 0 12 rfl (sg16p rfl) rfl
theorem dX1_scannedDistance_11 : decode cX1_scannedDistance 11 = .ok (.aload_n 0, 1) := dec_0 oX1_scannedDistance (of42 _) rfl
theorem dX1_scannedDistance_12 : decode cX1_scannedDistance 12 = .ok (.getfield 15, 3) := dec_2 oX1_scannedDistance (of180 _) 0 15 rfl rfl
theorem dX1_scannedDistance_15 : decode cX1_scannedDistance 15 = .ok (.iload_n 1, 1) := dec_0 oX1_scannedDistance (of27 _) rfl
theorem dX1_scannedDistance_16 : decode cX1_scannedDistance 16 = .ok (.iaload, 1) := dec_0 oX1_scannedDistance (of46 _) rfl
theorem dX1_scannedDistance_17 : decode cX1_scannedDistance 17 = .ok (.goto 5, 3) := dec_s2 oX1_scannedDistance (of167 _) 0 5 rfl (sg16p rfl) rfl
theorem dX1_scannedDistance_20 : decode cX1_scannedDistance 20 = .ok (.bipush (-2), 2) := dec_s1 oX1_scannedDistance (of16 _) 254 rfl (sg8n (k := 2) rfl) rfl
theorem dX1_scannedDistance_22 : decode cX1_scannedDistance 22 = .ok (.ireturn, 1) := dec_0 oX1_scannedDistance (of172 _) rfl
theorem dX1_leastScanned_0 : decode cX1_leastScanned 0 = .ok (.iconst (-1), 1) := dec_0 oX1_leastScanned (of2 _) rfl
theorem dX1_leastScanned_1 : decode cX1_leastScanned 1 = .ok (.istore_n 1, 1) := dec_0 oX1_leastScanned (of60 _) rfl
theorem dX1_leastScanned_2 : decode cX1_leastScanned 2 = .ok (.iconst 0, 1) := dec_0 oX1_leastScanned (of3 _) rfl
theorem dX1_leastScanned_3 : decode cX1_leastScanned 3 = .ok (.istore_n 2, 1) := dec_0 oX1_leastScanned (of61 _) rfl
theorem dX1_leastScanned_4 : decode cX1_leastScanned 4 = .ok (.iload_n 2, 1) := dec_0 oX1_leastScanned (of28 _) rfl
theorem dX1_leastScanned_5 : decode cX1_leastScanned 5 = .ok (.sipush 160, 3) := dec_s2 oX1_leastScanned (of17 _) 0 160 rfl (sg16p rfl) rfl
theorem dX1_leastScanned_8 : decode cX1_leastScanned 8 = .ok (.if_icmp .ge 39, 3) := dec_s2 oX1_leastScanned (of162 _) 0 39 rfl (sg16p rfl) rfl
theorem dX1_leastScanned_11 : decode cX1_leastScanned 11 = .ok (.aload_n 0, 1) := dec_0 oX1_leastScanned (of42 _) rfl
theorem dX1_leastScanned_12 : decode cX1_leastScanned 12 = .ok (.getfield 15, 3) := dec_2 oX1_leastScanned (of180 _) 0 15 rfl rfl
theorem dX1_leastScanned_15 : decode cX1_leastScanned 15 = .ok (.iload_n 2, 1) := dec_0 oX1_leastScanned (of28 _) rfl
theorem dX1_leastScanned_16 : decode cX1_leastScanned 16 = .ok (.iaload, 1) := dec_0 oX1_leastScanned (of46 _) rfl
theorem dX1_leastScanned_17 : decode cX1_leastScanned 17 = .ok (.ifCond .lt 24, 3) := dec_s2 oX1_leastScanned (of155 _) 0 24 rfl (sg16p rfl) rfl
theorem dX1_leastScanned_20 : decode cX1_leastScanned 20 = .ok (.iload_n 1, 1) := dec_0 oX1_leastScanned (of27 _) rfl
theorem dX1_leastScanned_21 : decode cX1_leastScanned 21 = .ok (.ifCond .lt 18, 3) := dec_s2 oX1_leastScanned (of155 _) 0 18 rfl (sg16p rfl) rfl
theorem dX1_leastScanned_24 : decode cX1_leastScanned 24 = .ok (.aload_n 0, 1) := dec_0 oX1_leastScanned (of42 _) rfl
theorem dX1_leastScanned_25 : decode cX1_leastScanned 25 = .ok (.getfield 15, 3) := dec_2 oX1_leastScanned (of180 _) 0 15 rfl rfl
theorem dX1_leastScanned_28 : decode cX1_leastScanned 28 = .ok (.iload_n 2, 1) := dec_0 oX1_leastScanned (of28 _) rfl
theorem dX1_leastScanned_29 : decode cX1_leastScanned 29 = .ok (.iaload, 1) := dec_0 oX1_leastScanned (of46 _) rfl
theorem dX1_leastScanned_30 : decode cX1_leastScanned 30 = .ok (.aload_n 0, 1) := dec_0 oX1_leastScanned (of42 _) rfl
theorem dX1_leastScanned_31 : decode cX1_leastScanned 31 = .ok (.getfield 15, 3) := dec_2 oX1_leastScanned (of180 _) 0 15 rfl rfl
theorem dX1_leastScanned_34 : decode cX1_leastScanned 34 = .ok (.iload_n 1, 1) := dec_0 oX1_leastScanned (of27 _) rfl
theorem dX1_leastScanned_35 : decode cX1_leastScanned 35 = .ok (.iaload, 1) := dec_0 oX1_leastScanned (of46 _) rfl
theorem dX1_leastScanned_36 : decode cX1_leastScanned 36 = .ok (.if_icmp .ge 5, 3) := dec_s2 oX1_leastScanned (of162 _) 0 5 rfl (sg16p rfl) rfl
theorem dX1_leastScanned_39 : decode cX1_leastScanned 39 = .ok (.iload_n 2, 1) := dec_0 oX1_leastScanned (of28 _) rfl
theorem dX1_leastScanned_40 : decode cX1_leastScanned 40 = .ok (.istore_n 1, 1) := dec_0 oX1_leastScanned (of60 _) rfl
theorem dX1_leastScanned_41 : decode cX1_leastScanned 41 = .ok (.iinc 2 1, 3) := dec_ii oX1_leastScanned (of132 _) 2 1 rfl (sg8p rfl) rfl
theorem dX1_leastScanned_44 : decode cX1_leastScanned 44 = .ok (.goto (-40), 3) := dec_s2 oX1_leastScanned (of167 _) 255 216 rfl (sg16n (k := 40) rfl) rfl
theorem dX1_leastScanned_47 : decode cX1_leastScanned 47 = .ok (.iload_n 1, 1) := dec_0 oX1_leastScanned (of27 _) rfl
theorem dX1_leastScanned_48 : decode cX1_leastScanned 48 = .ok (.ireturn, 1) := dec_0 oX1_leastScanned (of172 _) rfl
theorem dX1_findMatches_0 : decode cX1_findMatches 0 = .ok (.aload_n 0, 1) := dec_0 oX1_findMatches (of42 _) rfl
theorem dX1_findMatches_1 : decode cX1_findMatches 1 = .ok (.iload_n 1, 1) := dec_0 oX1_findMatches (of27 _) rfl
theorem dX1_findMatches_2 : decode cX1_findMatches 2 = .ok (.invokevirtual 116, 3) := dec_2 oX1_findMatches (of182 _) 0 116 rfl rfl
theorem dX1_findMatches_5 : decode cX1_findMatches 5 = .ok (.aload_n 0, 1) := dec_0 oX1_findMatches (of42 _) rfl
theorem dX1_findMatches_6 : decode cX1_findMatches 6 = .ok (.iconst 0, 1) := dec_0 oX1_findMatches (of3 _) rfl
theorem dX1_findMatches_7 : decode cX1_findMatches 7 = .ok (.putfield 119, 3) := dec_2 oX1_findMatches (of181 _) 0 119 rfl rfl
theorem dX1_findMatches_10 : decode cX1_findMatches 10 = .ok (.aload_n 0, 1) := dec_0 oX1_findMatches (of42 _) rfl
theorem dX1_findMatches_11 : decode cX1_findMatches 11 = .ok (.invokevirtual 122, 3) := dec_2 oX1_findMatches (of182 _) 0 122 rfl rfl
theorem dX1_findMatches_14 : decode cX1_findMatches 14 = .ok (.istore_n 2, 1) := dec_0 oX1_findMatches (of61 _) rfl
theorem dX1_findMatches_15 : decode cX1_findMatches 15 = .ok (.iconst 0, 1) := dec_0 oX1_findMatches (of3 _) rfl
theorem dX1_findMatches_16 : decode cX1_findMatches 16 = .ok (.istore_n 3, 1) := dec_0 oX1_findMatches (of62 _) rfl
theorem dX1_findMatches_17 : decode cX1_findMatches 17 = .ok (.iload_n 3, 1) := dec_0 oX1_findMatches (of29 _) rfl
theorem dX1_findMatches_18 : decode cX1_findMatches 18 = .ok (.sipush 160, 3) := dec_s2 oX1_findMatches (of17 _) 0 160 rfl (sg16p rfl) rfl
theorem dX1_findMatches_21 : decode cX1_findMatches 21 = .ok (.if_icmp .ge 49, 3) := dec_s2 oX1_findMatches (of162 _) 0 49 rfl (sg16p rfl) rfl
theorem dX1_findMatches_24 : decode cX1_findMatches 24 = .ok (.iload_n 2, 1) := dec_0 oX1_findMatches (of28 _) rfl
theorem dX1_findMatches_25 : decode cX1_findMatches 25 = .ok (.ifCond .lt 45, 3) := dec_s2 oX1_findMatches (of155 _) 0 45 rfl (sg16p rfl) rfl
theorem dX1_findMatches_28 : decode cX1_findMatches 28 = .ok (.aload_n 0, 1) := dec_0 oX1_findMatches (of42 _) rfl
theorem dX1_findMatches_29 : decode cX1_findMatches 29 = .ok (.getfield 18, 3) := dec_2 oX1_findMatches (of180 _) 0 18 rfl rfl
theorem dX1_findMatches_32 : decode cX1_findMatches 32 = .ok (.iload_n 3, 1) := dec_0 oX1_findMatches (of29 _) rfl
theorem dX1_findMatches_33 : decode cX1_findMatches 33 = .ok (.iload_n 2, 1) := dec_0 oX1_findMatches (of28 _) rfl
theorem dX1_findMatches_34 : decode cX1_findMatches 34 = .ok (.iastore, 1) := dec_0 oX1_findMatches (of79 _) rfl
theorem dX1_findMatches_35 : decode cX1_findMatches 35 = .ok (.aload_n 0, 1) := dec_0 oX1_findMatches (of42 _) rfl
theorem dX1_findMatches_36 : decode cX1_findMatches 36 = .ok (.getfield 21, 3) := dec_2 oX1_findMatches (of180 _) 0 21 rfl rfl
theorem dX1_findMatches_39 : decode cX1_findMatches 39 = .ok (.iload_n 3, 1) := dec_0 oX1_findMatches (of29 _) rfl
theorem dX1_findMatches_40 : decode cX1_findMatches 40 = .ok (.aload_n 0, 1) := dec_0 oX1_findMatches (of42 _) rfl
theorem dX1_findMatches_41 : decode cX1_findMatches 41 = .ok (.getfield 15, 3) := dec_2 oX1_findMatches (of180 _) 0 15 rfl rfl
theorem dX1_findMatches_44 : decode cX1_findMatches 44 = .ok (.iload_n 2, 1) := dec_0 oX1_findMatches (of28 _) rfl
theorem dX1_findMatches_45 : decode cX1_findMatches 45 = .ok (.iaload, 1) := dec_0 oX1_findMatches (of46 _) rfl
theorem dX1_findMatches_46 : decode cX1_findMatches 46 = .ok (.iastore, 1) := dec_0 oX1_findMatches (of79 _) rfl
theorem dX1_findMatches_47 : decode cX1_findMatches 47 = .ok (.aload_n 0, 1) := dec_0 oX1_findMatches (of42 _) rfl
theorem dX1_findMatches_48 : decode cX1_findMatches 48 = .ok (.iload_n 3, 1) := dec_0 oX1_findMatches (of29 _) rfl
theorem dX1_findMatches_49 : decode cX1_findMatches 49 = .ok (.iconst 1, 1) := dec_0 oX1_findMatches (of4 _) rfl
theorem dX1_findMatches_50 : decode cX1_findMatches 50 = .ok (.iadd, 1) := dec_0 oX1_findMatches (of96 _) rfl
theorem dX1_findMatches_51 : decode cX1_findMatches 51 = .ok (.putfield 119, 3) := dec_2 oX1_findMatches (of181 _) 0 119 rfl rfl
theorem dX1_findMatches_54 : decode cX1_findMatches 54 = .ok (.aload_n 0, 1) := dec_0 oX1_findMatches (of42 _) rfl
theorem dX1_findMatches_55 : decode cX1_findMatches 55 = .ok (.iload_n 2, 1) := dec_0 oX1_findMatches (of28 _) rfl
theorem dX1_findMatches_56 : decode cX1_findMatches 56 = .ok (.invokevirtual 125, 3) := dec_2 oX1_findMatches (of182 _) 0 125 rfl rfl
theorem dX1_findMatches_59 : decode cX1_findMatches 59 = .ok (.aload_n 0, 1) := dec_0 oX1_findMatches (of42 _) rfl
theorem dX1_findMatches_60 : decode cX1_findMatches 60 = .ok (.invokevirtual 122, 3) := dec_2 oX1_findMatches (of182 _) 0 122 rfl rfl
theorem dX1_findMatches_63 : decode cX1_findMatches 63 = .ok (.istore_n 2, 1) := dec_0 oX1_findMatches (of61 _) rfl
theorem dX1_findMatches_64 : decode cX1_findMatches 64 = .ok (.iinc 3 1, 3) := dec_ii oX1_findMatches (of132 _) 3 1 rfl (sg8p rfl) rfl
theorem dX1_findMatches_67 : decode cX1_findMatches 67 = .ok (.goto (-50), 3) := dec_s2 oX1_findMatches (of167 _) 255 206 rfl (sg16n (k := 50) rfl) rfl
theorem dX1_findMatches_70 : decode cX1_findMatches 70 = .ok (.return_, 1) := dec_0 oX1_findMatches (of177 _) rfl
theorem dX1_passOverAround_0 : decode cX1_passOverAround 0 = .ok (.aload_n 0, 1) := dec_0 oX1_passOverAround (of42 _) rfl
theorem dX1_passOverAround_1 : decode cX1_passOverAround 1 = .ok (.getfield 28, 3) := dec_2 oX1_passOverAround (of180 _) 0 28 rfl rfl
theorem dX1_passOverAround_4 : decode cX1_passOverAround 4 = .ok (.getfield 45, 3) := dec_2 oX1_passOverAround (of180 _) 0 45 rfl rfl
theorem dX1_passOverAround_7 : decode cX1_passOverAround 7 = .ok (.iconst 3, 1) := dec_0 oX1_passOverAround (of6 _) rfl
theorem dX1_passOverAround_8 : decode cX1_passOverAround 8 = .ok (.invokevirtual 49, 3) := dec_2 oX1_passOverAround (of182 _) 0 49 rfl rfl
theorem dX1_passOverAround_11 : decode cX1_passOverAround 11 = .ok (.istore_n 2, 1) := dec_0 oX1_passOverAround (of61 _) rfl
theorem dX1_passOverAround_12 : decode cX1_passOverAround 12 = .ok (.iconst 0, 1) := dec_0 oX1_passOverAround (of3 _) rfl
theorem dX1_passOverAround_13 : decode cX1_passOverAround 13 = .ok (.istore_n 3, 1) := dec_0 oX1_passOverAround (of62 _) rfl
theorem dX1_passOverAround_14 : decode cX1_passOverAround 14 = .ok (.iload_n 3, 1) := dec_0 oX1_passOverAround (of29 _) rfl
theorem dX1_passOverAround_15 : decode cX1_passOverAround 15 = .ok (.sipush 160, 3) := dec_s2 oX1_passOverAround (of17 _) 0 160 rfl (sg16p rfl) rfl
theorem dX1_passOverAround_18 : decode cX1_passOverAround 18 = .ok (.if_icmp .ge 26, 3) := dec_s2 oX1_passOverAround (of162 _) 0 26 rfl (sg16p rfl) rfl
theorem dX1_passOverAround_21 : decode cX1_passOverAround 21 = .ok (.iload_n 3, 1) := dec_0 oX1_passOverAround (of29 _) rfl
theorem dX1_passOverAround_22 : decode cX1_passOverAround 22 = .ok (.iload_n 1, 1) := dec_0 oX1_passOverAround (of27 _) rfl
theorem dX1_passOverAround_23 : decode cX1_passOverAround 23 = .ok (.isub, 1) := dec_0 oX1_passOverAround (of100 _) rfl
theorem dX1_passOverAround_24 : decode cX1_passOverAround 24 = .ok (.invokestatic 128, 3) := dec_2 oX1_passOverAround (of184 _) 0 128 rfl rfl
theorem dX1_passOverAround_27 : decode cX1_passOverAround 27 = .ok (.iload_n 2, 1) := dec_0 oX1_passOverAround (of28 _) rfl
theorem dX1_passOverAround_28 : decode cX1_passOverAround 28 = .ok (.if_icmp .ge 10, 3) := dec_s2 oX1_passOverAround (of162 _) 0 10 rfl (sg16p rfl) rfl
theorem dX1_passOverAround_31 : decode cX1_passOverAround 31 = .ok (.aload_n 0, 1) := dec_0 oX1_passOverAround (of42 _) rfl
theorem dX1_passOverAround_32 : decode cX1_passOverAround 32 = .ok (.getfield 15, 3) := dec_2 oX1_passOverAround (of180 _) 0 15 rfl rfl
theorem dX1_passOverAround_35 : decode cX1_passOverAround 35 = .ok (.iload_n 3, 1) := dec_0 oX1_passOverAround (of29 _) rfl
theorem dX1_passOverAround_36 : decode cX1_passOverAround 36 = .ok (.iconst (-1), 1) := dec_0 oX1_passOverAround (of2 _) rfl
theorem dX1_passOverAround_37 : decode cX1_passOverAround 37 = .ok (.iastore, 1) := dec_0 oX1_passOverAround (of79 _) rfl
theorem dX1_passOverAround_38 : decode cX1_passOverAround 38 = .ok (.iinc 3 1, 3) := dec_ii oX1_passOverAround (of132 _) 3 1 rfl (sg8p rfl) rfl
theorem dX1_passOverAround_41 : decode cX1_passOverAround 41 = .ok (.goto (-27), 3) := dec_s2 oX1_passOverAround (of167 _) 255 229 rfl (sg16n (k := 27) rfl) rfl
theorem dX1_passOverAround_44 : decode cX1_passOverAround 44 = .ok (.return_, 1) := dec_0 oX1_passOverAround (of177 _) rfl
theorem dX1_matchWindow_0 : decode cX1_matchWindow 0 = .ok (.iload_n 1, 1) := dec_0 oX1_matchWindow (of27 _) rfl
theorem dX1_matchWindow_1 : decode cX1_matchWindow 1 = .ok (.ifCond .lt 27, 3) := dec_s2 oX1_matchWindow (of155 _) 0 27 rfl (sg16p rfl) rfl
theorem dX1_matchWindow_4 : decode cX1_matchWindow 4 = .ok (.iload_n 1, 1) := dec_0 oX1_matchWindow (of27 _) rfl
theorem dX1_matchWindow_5 : decode cX1_matchWindow 5 = .ok (.aload_n 0, 1) := dec_0 oX1_matchWindow (of42 _) rfl
theorem dX1_matchWindow_6 : decode cX1_matchWindow 6 = .ok (.getfield 119, 3) := dec_2 oX1_matchWindow (of180 _) 0 119 rfl rfl
theorem dX1_matchWindow_9 : decode cX1_matchWindow 9 = .ok (.if_icmp .ge 19, 3) := dec_s2 oX1_matchWindow (of162 _) 0 19 rfl (sg16p rfl) rfl
theorem dX1_matchWindow_12 : decode cX1_matchWindow 12 = .ok (.iload_n 1, 1) := dec_0 oX1_matchWindow (of27 _) rfl
theorem dX1_matchWindow_13 : decode cX1_matchWindow 13 = .ok (.sipush 160, 3) := dec_s2 oX1_matchWindow (of17 _) 0 160 rfl (sg16p rfl) rfl
theorem dX1_matchWindow_16 : decode cX1_matchWindow 16 = .ok (.if_icmp .ge 12, 3) := dec_s2 oX1_matchWindow (of162 _) 0 12 rfl (sg16p rfl) rfl
theorem dX1_matchWindow_19 : decode cX1_matchWindow 19 = .ok (.aload_n 0, 1) := dec_0 oX1_matchWindow (of42 _) rfl
theorem dX1_matchWindow_20 : decode cX1_matchWindow 20 = .ok (.getfield 18, 3) := dec_2 oX1_matchWindow (of180 _) 0 18 rfl rfl
theorem dX1_matchWindow_23 : decode cX1_matchWindow 23 = .ok (.iload_n 1, 1) := dec_0 oX1_matchWindow (of27 _) rfl
theorem dX1_matchWindow_24 : decode cX1_matchWindow 24 = .ok (.iaload, 1) := dec_0 oX1_matchWindow (of46 _) rfl
theorem dX1_matchWindow_25 : decode cX1_matchWindow 25 = .ok (.goto 5, 3) := dec_s2 oX1_matchWindow (of167 _) 0 5 rfl (sg16p rfl) rfl
theorem dX1_matchWindow_28 : decode cX1_matchWindow 28 = .ok (.bipush (-2), 2) := dec_s1 oX1_matchWindow (of16 _) 254 rfl (sg8n (k := 2) rfl) rfl
theorem dX1_matchWindow_30 : decode cX1_matchWindow 30 = .ok (.ireturn, 1) := dec_0 oX1_matchWindow (of172 _) rfl
theorem dX1_matchDistance_0 : decode cX1_matchDistance 0 = .ok (.iload_n 1, 1) := dec_0 oX1_matchDistance (of27 _) rfl
theorem dX1_matchDistance_1 : decode cX1_matchDistance 1 = .ok (.ifCond .lt 27, 3) := dec_s2 oX1_matchDistance (of155 _) 0 27 rfl (sg16p rfl) rfl
theorem dX1_matchDistance_4 : decode cX1_matchDistance 4 = .ok (.iload_n 1, 1) := dec_0 oX1_matchDistance (of27 _) rfl
theorem dX1_matchDistance_5 : decode cX1_matchDistance 5 = .ok (.aload_n 0, 1) := dec_0 oX1_matchDistance (of42 _) rfl
theorem dX1_matchDistance_6 : decode cX1_matchDistance 6 = .ok (.getfield 119, 3) := dec_2 oX1_matchDistance (of180 _) 0 119 rfl rfl
theorem dX1_matchDistance_9 : decode cX1_matchDistance 9 = .ok (.if_icmp .ge 19, 3) := dec_s2 oX1_matchDistance (of162 _) 0 19 rfl (sg16p rfl) rfl
theorem dX1_matchDistance_12 : decode cX1_matchDistance 12 = .ok (.iload_n 1, 1) := dec_0 oX1_matchDistance (of27 _) rfl
theorem dX1_matchDistance_13 : decode cX1_matchDistance 13 = .ok (.sipush 160, 3) := dec_s2 oX1_matchDistance (of17 _) 0 160 rfl (sg16p rfl) rfl
theorem dX1_matchDistance_16 : decode cX1_matchDistance 16 = .ok (.if_icmp .ge 12, 3) := dec_s2 oX1_matchDistance (of162 _) 0 12 rfl (sg16p rfl) rfl
theorem dX1_matchDistance_19 : decode cX1_matchDistance 19 = .ok (.aload_n 0, 1) := dec_0 oX1_matchDistance (of42 _) rfl
theorem dX1_matchDistance_20 : decode cX1_matchDistance 20 = .ok (.getfield 21, 3) := dec_2 oX1_matchDistance (of180 _) 0 21 rfl rfl
theorem dX1_matchDistance_23 : decode cX1_matchDistance 23 = .ok (.iload_n 1, 1) := dec_0 oX1_matchDistance (of27 _) rfl
theorem dX1_matchDistance_24 : decode cX1_matchDistance 24 = .ok (.iaload, 1) := dec_0 oX1_matchDistance (of46 _) rfl
theorem dX1_matchDistance_25 : decode cX1_matchDistance 25 = .ok (.goto 5, 3) := dec_s2 oX1_matchDistance (of167 _) 0 5 rfl (sg16p rfl) rfl
theorem dX1_matchDistance_28 : decode cX1_matchDistance 28 = .ok (.bipush (-2), 2) := dec_s1 oX1_matchDistance (of16 _) 254 rfl (sg8n (k := 2) rfl) rfl
theorem dX1_matchDistance_30 : decode cX1_matchDistance 30 = .ok (.ireturn, 1) := dec_0 oX1_matchDistance (of172 _) rfl
theorem dX1_matchesWithin_0 : decode cX1_matchesWithin 0 = .ok (.iconst 0, 1) := dec_0 oX1_matchesWithin (of3 _) rfl
theorem dX1_matchesWithin_1 : decode cX1_matchesWithin 1 = .ok (.istore_n 2, 1) := dec_0 oX1_matchesWithin (of61 _) rfl
theorem dX1_matchesWithin_2 : decode cX1_matchesWithin 2 = .ok (.iconst 0, 1) := dec_0 oX1_matchesWithin (of3 _) rfl
theorem dX1_matchesWithin_3 : decode cX1_matchesWithin 3 = .ok (.istore_n 3, 1) := dec_0 oX1_matchesWithin (of62 _) rfl
theorem dX1_matchesWithin_4 : decode cX1_matchesWithin 4 = .ok (.iload_n 3, 1) := dec_0 oX1_matchesWithin (of29 _) rfl
theorem dX1_matchesWithin_5 : decode cX1_matchesWithin 5 = .ok (.aload_n 0, 1) := dec_0 oX1_matchesWithin (of42 _) rfl
theorem dX1_matchesWithin_6 : decode cX1_matchesWithin 6 = .ok (.getfield 119, 3) := dec_2 oX1_matchesWithin (of180 _) 0 119 rfl rfl
theorem dX1_matchesWithin_9 : decode cX1_matchesWithin 9 = .ok (.if_icmp .ge 21, 3) := dec_s2 oX1_matchesWithin (of162 _) 0 21 rfl (sg16p rfl) rfl
theorem dX1_matchesWithin_12 : decode cX1_matchesWithin 12 = .ok (.aload_n 0, 1) := dec_0 oX1_matchesWithin (of42 _) rfl
theorem dX1_matchesWithin_13 : decode cX1_matchesWithin 13 = .ok (.iload_n 3, 1) := dec_0 oX1_matchesWithin (of29 _) rfl
theorem dX1_matchesWithin_14 : decode cX1_matchesWithin 14 = .ok (.invokevirtual 133, 3) := dec_2 oX1_matchesWithin (of182 _) 0 133 rfl rfl
theorem dX1_matchesWithin_17 : decode cX1_matchesWithin 17 = .ok (.iload_n 1, 1) := dec_0 oX1_matchesWithin (of27 _) rfl
theorem dX1_matchesWithin_18 : decode cX1_matchesWithin 18 = .ok (.if_icmp .gt 6, 3) := dec_s2 oX1_matchesWithin (of163 _) 0 6 rfl (sg16p rfl) rfl
theorem dX1_matchesWithin_21 : decode cX1_matchesWithin 21 = .ok (.iinc 2 1, 3) := dec_ii oX1_matchesWithin (of132 _) 2 1 rfl (sg8p rfl) rfl
theorem dX1_matchesWithin_24 : decode cX1_matchesWithin 24 = .ok (.iinc 3 1, 3) := dec_ii oX1_matchesWithin (of132 _) 3 1 rfl (sg8p rfl) rfl
theorem dX1_matchesWithin_27 : decode cX1_matchesWithin 27 = .ok (.goto (-23), 3) := dec_s2 oX1_matchesWithin (of167 _) 255 233 rfl (sg16n (k := 23) rfl) rfl
theorem dX1_matchesWithin_30 : decode cX1_matchesWithin 30 = .ok (.iload_n 2, 1) := dec_0 oX1_matchesWithin (of28 _) rfl
theorem dX1_matchesWithin_31 : decode cX1_matchesWithin 31 = .ok (.ireturn, 1) := dec_0 oX1_matchesWithin (of172 _) rfl
theorem dX1_placesWithin_0 : decode cX1_placesWithin 0 = .ok (.iconst 0, 1) := dec_0 oX1_placesWithin (of3 _) rfl
theorem dX1_placesWithin_1 : decode cX1_placesWithin 1 = .ok (.istore_n 3, 1) := dec_0 oX1_placesWithin (of62 _) rfl
theorem dX1_placesWithin_2 : decode cX1_placesWithin 2 = .ok (.iload_n 3, 1) := dec_0 oX1_placesWithin (of29 _) rfl
theorem dX1_placesWithin_3 : decode cX1_placesWithin 3 = .ok (.sipush 160, 3) := dec_s2 oX1_placesWithin (of17 _) 0 160 rfl (sg16p rfl) rfl
theorem dX1_placesWithin_6 : decode cX1_placesWithin 6 = .ok (.if_icmp .ge 16, 3) := dec_s2 oX1_placesWithin (of162 _) 0 16 rfl (sg16p rfl) rfl
theorem dX1_placesWithin_9 : decode cX1_placesWithin 9 = .ok (.aload_n 0, 1) := dec_0 oX1_placesWithin (of42 _) rfl
theorem dX1_placesWithin_10 : decode cX1_placesWithin 10 = .ok (.getfield 24, 3) := dec_2 oX1_placesWithin (of180 _) 0 24 rfl rfl
theorem dX1_placesWithin_13 : decode cX1_placesWithin 13 = .ok (.iload_n 3, 1) := dec_0 oX1_placesWithin (of29 _) rfl
theorem dX1_placesWithin_14 : decode cX1_placesWithin 14 = .ok (.iconst 0, 1) := dec_0 oX1_placesWithin (of3 _) rfl
theorem dX1_placesWithin_15 : decode cX1_placesWithin 15 = .ok (.bastore, 1) := dec_0 oX1_placesWithin (of84 _) rfl
theorem dX1_placesWithin_16 : decode cX1_placesWithin 16 = .ok (.iinc 3 1, 3) := dec_ii oX1_placesWithin (of132 _) 3 1 rfl (sg8p rfl) rfl
theorem dX1_placesWithin_19 : decode cX1_placesWithin 19 = .ok (.goto (-17), 3) := dec_s2 oX1_placesWithin (of167 _) 255 239 rfl (sg16n (k := 17) rfl) rfl
theorem dX1_placesWithin_22 : decode cX1_placesWithin 22 = .ok (.iconst 0, 1) := dec_0 oX1_placesWithin (of3 _) rfl
theorem dX1_placesWithin_23 : decode cX1_placesWithin 23 = .ok (.istore_n 3, 1) := dec_0 oX1_placesWithin (of62 _) rfl
theorem dX1_placesWithin_24 : decode cX1_placesWithin 24 = .ok (.iload_n 3, 1) := dec_0 oX1_placesWithin (of29 _) rfl
theorem dX1_placesWithin_25 : decode cX1_placesWithin 25 = .ok (.aload_n 0, 1) := dec_0 oX1_placesWithin (of42 _) rfl
theorem dX1_placesWithin_26 : decode cX1_placesWithin 26 = .ok (.getfield 119, 3) := dec_2 oX1_placesWithin (of180 _) 0 119 rfl rfl
theorem dX1_placesWithin_29 : decode cX1_placesWithin 29 = .ok (.if_icmp .ge 28, 3) := dec_s2 oX1_placesWithin (of162 _) 0 28 rfl (sg16p rfl) rfl
theorem dX1_placesWithin_32 : decode cX1_placesWithin 32 = .ok (.aload_n 0, 1) := dec_0 oX1_placesWithin (of42 _) rfl
theorem dX1_placesWithin_33 : decode cX1_placesWithin 33 = .ok (.iload_n 3, 1) := dec_0 oX1_placesWithin (of29 _) rfl
theorem dX1_placesWithin_34 : decode cX1_placesWithin 34 = .ok (.invokevirtual 133, 3) := dec_2 oX1_placesWithin (of182 _) 0 133 rfl rfl
theorem dX1_placesWithin_37 : decode cX1_placesWithin 37 = .ok (.iload_n 1, 1) := dec_0 oX1_placesWithin (of27 _) rfl
theorem dX1_placesWithin_38 : decode cX1_placesWithin 38 = .ok (.if_icmp .gt 13, 3) := dec_s2 oX1_placesWithin (of163 _) 0 13 rfl (sg16p rfl) rfl
theorem dX1_placesWithin_41 : decode cX1_placesWithin 41 = .ok (.aload_n 0, 1) := dec_0 oX1_placesWithin (of42 _) rfl
theorem dX1_placesWithin_42 : decode cX1_placesWithin 42 = .ok (.aload_n 0, 1) := dec_0 oX1_placesWithin (of42 _) rfl
theorem dX1_placesWithin_43 : decode cX1_placesWithin 43 = .ok (.iload_n 3, 1) := dec_0 oX1_placesWithin (of29 _) rfl
theorem dX1_placesWithin_44 : decode cX1_placesWithin 44 = .ok (.invokevirtual 136, 3) := dec_2 oX1_placesWithin (of182 _) 0 136 rfl rfl
theorem dX1_placesWithin_47 : decode cX1_placesWithin 47 = .ok (.iload_n 2, 1) := dec_0 oX1_placesWithin (of28 _) rfl
theorem dX1_placesWithin_48 : decode cX1_placesWithin 48 = .ok (.invokevirtual 139, 3) := dec_2 oX1_placesWithin (of182 _) 0 139 rfl rfl
theorem dX1_placesWithin_51 : decode cX1_placesWithin 51 = .ok (.iinc 3 1, 3) := dec_ii oX1_placesWithin (of132 _) 3 1 rfl (sg8p rfl) rfl
theorem dX1_placesWithin_54 : decode cX1_placesWithin 54 = .ok (.goto (-30), 3) := dec_s2 oX1_placesWithin (of167 _) 255 226 rfl (sg16n (k := 30) rfl) rfl
theorem dX1_placesWithin_57 : decode cX1_placesWithin 57 = .ok (.iconst 0, 1) := dec_0 oX1_placesWithin (of3 _) rfl
theorem dX1_placesWithin_58 : decode cX1_placesWithin 58 = .ok (.istore_n 3, 1) := dec_0 oX1_placesWithin (of62 _) rfl
theorem dX1_placesWithin_59 : decode cX1_placesWithin 59 = .ok (.iconst 0, 1) := dec_0 oX1_placesWithin (of3 _) rfl
theorem dX1_placesWithin_60 : decode cX1_placesWithin 60 = .ok (.istore 4, 2) := dec_1 oX1_placesWithin (of54 _) 4 rfl rfl
theorem dX1_placesWithin_62 : decode cX1_placesWithin 62 = .ok (.iload 4, 2) := dec_1 oX1_placesWithin (of21 _) 4 rfl rfl
theorem dX1_placesWithin_64 : decode cX1_placesWithin 64 = .ok (.sipush 160, 3) := dec_s2 oX1_placesWithin (of17 _) 0 160 rfl (sg16p rfl) rfl
theorem dX1_placesWithin_67 : decode cX1_placesWithin 67 = .ok (.if_icmp .ge 22, 3) := dec_s2 oX1_placesWithin (of162 _) 0 22 rfl (sg16p rfl) rfl
theorem dX1_placesWithin_70 : decode cX1_placesWithin 70 = .ok (.aload_n 0, 1) := dec_0 oX1_placesWithin (of42 _) rfl
theorem dX1_placesWithin_71 : decode cX1_placesWithin 71 = .ok (.getfield 24, 3) := dec_2 oX1_placesWithin (of180 _) 0 24 rfl rfl
theorem dX1_placesWithin_74 : decode cX1_placesWithin 74 = .ok (.iload 4, 2) := dec_1 oX1_placesWithin (of21 _) 4 rfl rfl
theorem dX1_placesWithin_76 : decode cX1_placesWithin 76 = .ok (.baload, 1) := dec_0 oX1_placesWithin (of51 _) rfl
theorem dX1_placesWithin_77 : decode cX1_placesWithin 77 = .ok (.ifCond .eq 6, 3) := dec_s2 oX1_placesWithin (of153 _) 0 6 rfl (sg16p rfl) rfl
theorem dX1_placesWithin_80 : decode cX1_placesWithin 80 = .ok (.iinc 3 1, 3) := dec_ii oX1_placesWithin (of132 _) 3 1 rfl (sg8p rfl) rfl
theorem dX1_placesWithin_83 : decode cX1_placesWithin 83 = .ok (.iinc 4 1, 3) := dec_ii oX1_placesWithin (of132 _) 4 1 rfl (sg8p rfl) rfl
theorem dX1_placesWithin_86 : decode cX1_placesWithin 86 = .ok (.goto (-24), 3) := dec_s2 oX1_placesWithin (of167 _) 255 232 rfl (sg16n (k := 24) rfl) rfl
theorem dX1_placesWithin_89 : decode cX1_placesWithin 89 = .ok (.iload_n 3, 1) := dec_0 oX1_placesWithin (of29 _) rfl
theorem dX1_placesWithin_90 : decode cX1_placesWithin 90 = .ok (.ireturn, 1) := dec_0 oX1_placesWithin (of172 _) rfl
theorem dX1_coverFrom_0 : decode cX1_coverFrom 0 = .ok (.iconst 0, 1) := dec_0 oX1_coverFrom (of3 _) rfl
theorem dX1_coverFrom_1 : decode cX1_coverFrom 1 = .ok (.istore_n 3, 1) := dec_0 oX1_coverFrom (of62 _) rfl
theorem dX1_coverFrom_2 : decode cX1_coverFrom 2 = .ok (.iload_n 3, 1) := dec_0 oX1_coverFrom (of29 _) rfl
theorem dX1_coverFrom_3 : decode cX1_coverFrom 3 = .ok (.iload_n 2, 1) := dec_0 oX1_coverFrom (of28 _) rfl
theorem dX1_coverFrom_4 : decode cX1_coverFrom 4 = .ok (.if_icmp .ge 35, 3) := dec_s2 oX1_coverFrom (of162 _) 0 35 rfl (sg16p rfl) rfl
theorem dX1_coverFrom_7 : decode cX1_coverFrom 7 = .ok (.iload_n 1, 1) := dec_0 oX1_coverFrom (of27 _) rfl
theorem dX1_coverFrom_8 : decode cX1_coverFrom 8 = .ok (.iload_n 3, 1) := dec_0 oX1_coverFrom (of29 _) rfl
theorem dX1_coverFrom_9 : decode cX1_coverFrom 9 = .ok (.iadd, 1) := dec_0 oX1_coverFrom (of96 _) rfl
theorem dX1_coverFrom_10 : decode cX1_coverFrom 10 = .ok (.istore 4, 2) := dec_1 oX1_coverFrom (of54 _) 4 rfl rfl
theorem dX1_coverFrom_12 : decode cX1_coverFrom 12 = .ok (.iload 4, 2) := dec_1 oX1_coverFrom (of21 _) 4 rfl rfl
theorem dX1_coverFrom_14 : decode cX1_coverFrom 14 = .ok (.ifCond .lt 19, 3) := dec_s2 oX1_coverFrom (of155 _) 0 19 rfl (sg16p rfl) rfl
theorem dX1_coverFrom_17 : decode cX1_coverFrom 17 = .ok (.iload 4, 2) := dec_1 oX1_coverFrom (of21 _) 4 rfl rfl
theorem dX1_coverFrom_19 : decode cX1_coverFrom 19 = .ok (.sipush 160, 3) := dec_s2 oX1_coverFrom (of17 _) 0 160 rfl (sg16p rfl) rfl
theorem dX1_coverFrom_22 : decode cX1_coverFrom 22 = .ok (.if_icmp .ge 11, 3) := dec_s2 oX1_coverFrom (of162 _) 0 11 rfl (sg16p rfl) rfl
theorem dX1_coverFrom_25 : decode cX1_coverFrom 25 = .ok (.aload_n 0, 1) := dec_0 oX1_coverFrom (of42 _) rfl
theorem dX1_coverFrom_26 : decode cX1_coverFrom 26 = .ok (.getfield 24, 3) := dec_2 oX1_coverFrom (of180 _) 0 24 rfl rfl
theorem dX1_coverFrom_29 : decode cX1_coverFrom 29 = .ok (.iload 4, 2) := dec_1 oX1_coverFrom (of21 _) 4 rfl rfl
theorem dX1_coverFrom_31 : decode cX1_coverFrom 31 = .ok (.iconst 1, 1) := dec_0 oX1_coverFrom (of4 _) rfl
theorem dX1_coverFrom_32 : decode cX1_coverFrom 32 = .ok (.bastore, 1) := dec_0 oX1_coverFrom (of84 _) rfl
theorem dX1_coverFrom_33 : decode cX1_coverFrom 33 = .ok (.iinc 3 1, 3) := dec_ii oX1_coverFrom (of132 _) 3 1 rfl (sg8p rfl) rfl
theorem dX1_coverFrom_36 : decode cX1_coverFrom 36 = .ok (.goto (-34), 3) := dec_s2 oX1_coverFrom (of167 _) 255 222 rfl (sg16n (k := 34) rfl) rfl
theorem dX1_coverFrom_39 : decode cX1_coverFrom 39 = .ok (.return_, 1) := dec_0 oX1_coverFrom (of177 _) rfl
theorem dX1_rankOf_0 : decode cX1_rankOf 0 = .ok (.aload_n 0, 1) := dec_0 oX1_rankOf (of42 _) rfl
theorem dX1_rankOf_1 : decode cX1_rankOf 1 = .ok (.iload_n 1, 1) := dec_0 oX1_rankOf (of27 _) rfl
theorem dX1_rankOf_2 : decode cX1_rankOf 2 = .ok (.invokevirtual 142, 3) := dec_2 oX1_rankOf (of182 _) 0 142 rfl rfl
theorem dX1_rankOf_5 : decode cX1_rankOf 5 = .ok (.istore_n 2, 1) := dec_0 oX1_rankOf (of61 _) rfl
theorem dX1_rankOf_6 : decode cX1_rankOf 6 = .ok (.iconst 0, 1) := dec_0 oX1_rankOf (of3 _) rfl
theorem dX1_rankOf_7 : decode cX1_rankOf 7 = .ok (.istore_n 3, 1) := dec_0 oX1_rankOf (of62 _) rfl
theorem dX1_rankOf_8 : decode cX1_rankOf 8 = .ok (.iconst 0, 1) := dec_0 oX1_rankOf (of3 _) rfl
theorem dX1_rankOf_9 : decode cX1_rankOf 9 = .ok (.istore 4, 2) := dec_1 oX1_rankOf (of54 _) 4 rfl rfl
theorem dX1_rankOf_11 : decode cX1_rankOf 11 = .ok (.iload 4, 2) := dec_1 oX1_rankOf (of21 _) 4 rfl rfl
theorem dX1_rankOf_13 : decode cX1_rankOf 13 = .ok (.sipush 160, 3) := dec_s2 oX1_rankOf (of17 _) 0 160 rfl (sg16p rfl) rfl
theorem dX1_rankOf_16 : decode cX1_rankOf 16 = .ok (.if_icmp .ge 44, 3) := dec_s2 oX1_rankOf (of162 _) 0 44 rfl (sg16p rfl) rfl
theorem dX1_rankOf_19 : decode cX1_rankOf 19 = .ok (.aload_n 0, 1) := dec_0 oX1_rankOf (of42 _) rfl
theorem dX1_rankOf_20 : decode cX1_rankOf 20 = .ok (.getfield 15, 3) := dec_2 oX1_rankOf (of180 _) 0 15 rfl rfl
theorem dX1_rankOf_23 : decode cX1_rankOf 23 = .ok (.iload 4, 2) := dec_1 oX1_rankOf (of21 _) 4 rfl rfl
theorem dX1_rankOf_25 : decode cX1_rankOf 25 = .ok (.iaload, 1) := dec_0 oX1_rankOf (of46 _) rfl
theorem dX1_rankOf_26 : decode cX1_rankOf 26 = .ok (.istore 5, 2) := dec_1 oX1_rankOf (of54 _) 5 rfl rfl
theorem dX1_rankOf_28 : decode cX1_rankOf 28 = .ok (.iload 5, 2) := dec_1 oX1_rankOf (of21 _) 5 rfl rfl
theorem dX1_rankOf_30 : decode cX1_rankOf 30 = .ok (.ifCond .lt 24, 3) := dec_s2 oX1_rankOf (of155 _) 0 24 rfl (sg16p rfl) rfl
theorem dX1_rankOf_33 : decode cX1_rankOf 33 = .ok (.iload 5, 2) := dec_1 oX1_rankOf (of21 _) 5 rfl rfl
theorem dX1_rankOf_35 : decode cX1_rankOf 35 = .ok (.iload_n 2, 1) := dec_0 oX1_rankOf (of28 _) rfl
theorem dX1_rankOf_36 : decode cX1_rankOf 36 = .ok (.if_icmp .lt 15, 3) := dec_s2 oX1_rankOf (of161 _) 0 15 rfl (sg16p rfl) rfl
theorem dX1_rankOf_39 : decode cX1_rankOf 39 = .ok (.iload 5, 2) := dec_1 oX1_rankOf (of21 _) 5 rfl rfl
theorem dX1_rankOf_41 : decode cX1_rankOf 41 = .ok (.iload_n 2, 1) := dec_0 oX1_rankOf (of28 _) rfl
theorem dX1_rankOf_42 : decode cX1_rankOf 42 = .ok (.if_icmp .ne 12, 3) := dec_s2 oX1_rankOf (of160 _) 0 12 rfl (sg16p rfl) rfl
theorem dX1_rankOf_45 : decode cX1_rankOf 45 = .ok (.iload 4, 2) := dec_1 oX1_rankOf (of21 _) 4 rfl rfl
theorem dX1_rankOf_47 : decode cX1_rankOf 47 = .ok (.iload_n 1, 1) := dec_0 oX1_rankOf (of27 _) rfl
theorem dX1_rankOf_48 : decode cX1_rankOf 48 = .ok (.if_icmp .ge 6, 3) := dec_s2 oX1_rankOf (of162 _) 0 6 rfl (sg16p rfl) rfl
theorem dX1_rankOf_51 : decode cX1_rankOf 51 = .ok (.iinc 3 1, 3) := dec_ii oX1_rankOf (of132 _) 3 1 rfl (sg8p rfl) rfl
theorem dX1_rankOf_54 : decode cX1_rankOf 54 = .ok (.iinc 4 1, 3) := dec_ii oX1_rankOf (of132 _) 4 1 rfl (sg8p rfl) rfl
theorem dX1_rankOf_57 : decode cX1_rankOf 57 = .ok (.goto (-46), 3) := dec_s2 oX1_rankOf (of167 _) 255 210 rfl (sg16n (k := 46) rfl) rfl
theorem dX1_rankOf_60 : decode cX1_rankOf 60 = .ok (.iload_n 3, 1) := dec_0 oX1_rankOf (of29 _) rfl
theorem dX1_rankOf_61 : decode cX1_rankOf 61 = .ok (.ireturn, 1) := dec_0 oX1_rankOf (of172 _) rfl
theorem dX1_windowOfRank_0 : decode cX1_windowOfRank 0 = .ok (.iconst 0, 1) := dec_0 oX1_windowOfRank (of3 _) rfl
theorem dX1_windowOfRank_1 : decode cX1_windowOfRank 1 = .ok (.istore_n 2, 1) := dec_0 oX1_windowOfRank (of61 _) rfl
theorem dX1_windowOfRank_2 : decode cX1_windowOfRank 2 = .ok (.iload_n 2, 1) := dec_0 oX1_windowOfRank (of28 _) rfl
theorem dX1_windowOfRank_3 : decode cX1_windowOfRank 3 = .ok (.sipush 160, 3) := dec_s2 oX1_windowOfRank (of17 _) 0 160 rfl (sg16p rfl) rfl
theorem dX1_windowOfRank_6 : decode cX1_windowOfRank 6 = .ok (.if_icmp .ge 29, 3) := dec_s2 oX1_windowOfRank (of162 _) 0 29 rfl (sg16p rfl) rfl
theorem dX1_windowOfRank_9 : decode cX1_windowOfRank 9 = .ok (.aload_n 0, 1) := dec_0 oX1_windowOfRank (of42 _) rfl
theorem dX1_windowOfRank_10 : decode cX1_windowOfRank 10 = .ok (.getfield 15, 3) := dec_2 oX1_windowOfRank (of180 _) 0 15 rfl rfl
theorem dX1_windowOfRank_13 : decode cX1_windowOfRank 13 = .ok (.iload_n 2, 1) := dec_0 oX1_windowOfRank (of28 _) rfl
theorem dX1_windowOfRank_14 : decode cX1_windowOfRank 14 = .ok (.iaload, 1) := dec_0 oX1_windowOfRank (of46 _) rfl
theorem dX1_windowOfRank_15 : decode cX1_windowOfRank 15 = .ok (.ifCond .lt 14, 3) := dec_s2 oX1_windowOfRank (of155 _) 0 14 rfl (sg16p rfl) rfl
theorem dX1_windowOfRank_18 : decode cX1_windowOfRank 18 = .ok (.aload_n 0, 1) := dec_0 oX1_windowOfRank (of42 _) rfl
theorem dX1_windowOfRank_19 : decode cX1_windowOfRank 19 = .ok (.iload_n 2, 1) := dec_0 oX1_windowOfRank (of28 _) rfl
theorem dX1_windowOfRank_20 : decode cX1_windowOfRank 20 = .ok (.invokevirtual 145, 3) := dec_2 oX1_windowOfRank (of182 _) 0 145 rfl rfl
theorem dX1_windowOfRank_23 : decode cX1_windowOfRank 23 = .ok (.iload_n 1, 1) := dec_0 oX1_windowOfRank (of27 _) rfl
theorem dX1_windowOfRank_24 : decode cX1_windowOfRank 24 = .ok (.if_icmp .ne 5, 3) := dec_s2 oX1_windowOfRank (of160 _) 0 5 rfl (sg16p rfl) rfl
theorem dX1_windowOfRank_27 : decode cX1_windowOfRank 27 = .ok (.iload_n 2, 1) := dec_0 oX1_windowOfRank (of28 _) rfl
theorem dX1_windowOfRank_28 : decode cX1_windowOfRank 28 = .ok (.ireturn, 1) := dec_0 oX1_windowOfRank (of172 _) rfl
theorem dX1_windowOfRank_29 : decode cX1_windowOfRank 29 = .ok (.iinc 2 1, 3) := dec_ii oX1_windowOfRank (of132 _) 2 1 rfl (sg8p rfl) rfl
theorem dX1_windowOfRank_32 : decode cX1_windowOfRank 32 = .ok (.goto (-30), 3) := dec_s2 oX1_windowOfRank (of167 _) 255 226 rfl (sg16n (k := 30) rfl) rfl
theorem dX1_windowOfRank_35 : decode cX1_windowOfRank 35 = .ok (.bipush (-2), 2) := dec_s1 oX1_windowOfRank (of16 _) 254 rfl (sg8n (k := 2) rfl) rfl
theorem dX1_windowOfRank_37 : decode cX1_windowOfRank 37 = .ok (.ireturn, 1) := dec_0 oX1_windowOfRank (of172 _) rfl
theorem dX1_turnCount_0 : decode cX1_turnCount 0 = .ok (.iconst 0, 1) := dec_0 oX1_turnCount (of3 _) rfl
theorem dX1_turnCount_1 : decode cX1_turnCount 1 = .ok (.istore_n 1, 1) := dec_0 oX1_turnCount (of60 _) rfl
theorem dX1_turnCount_2 : decode cX1_turnCount 2 = .ok (.iconst (-1), 1) := dec_0 oX1_turnCount (of2 _) rfl
theorem dX1_turnCount_3 : decode cX1_turnCount 3 = .ok (.istore_n 2, 1) := dec_0 oX1_turnCount (of61 _) rfl
theorem dX1_turnCount_4 : decode cX1_turnCount 4 = .ok (.iconst 0, 1) := dec_0 oX1_turnCount (of3 _) rfl
theorem dX1_turnCount_5 : decode cX1_turnCount 5 = .ok (.istore_n 3, 1) := dec_0 oX1_turnCount (of62 _) rfl
theorem dX1_turnCount_6 : decode cX1_turnCount 6 = .ok (.iconst 0, 1) := dec_0 oX1_turnCount (of3 _) rfl
theorem dX1_turnCount_7 : decode cX1_turnCount 7 = .ok (.istore 4, 2) := dec_1 oX1_turnCount (of54 _) 4 rfl rfl
theorem dX1_turnCount_9 : decode cX1_turnCount 9 = .ok (.iload 4, 2) := dec_1 oX1_turnCount (of21 _) 4 rfl rfl
theorem dX1_turnCount_11 : decode cX1_turnCount 11 = .ok (.sipush 160, 3) := dec_s2 oX1_turnCount (of17 _) 0 160 rfl (sg16p rfl) rfl
theorem dX1_turnCount_14 : decode cX1_turnCount 14 = .ok (.if_icmp .ge 68, 3) := dec_s2 oX1_turnCount (of162 _) 0 68 rfl (sg16p rfl) rfl
theorem dX1_turnCount_17 : decode cX1_turnCount 17 = .ok (.aload_n 0, 1) := dec_0 oX1_turnCount (of42 _) rfl
theorem dX1_turnCount_18 : decode cX1_turnCount 18 = .ok (.getfield 15, 3) := dec_2 oX1_turnCount (of180 _) 0 15 rfl rfl
theorem dX1_turnCount_21 : decode cX1_turnCount 21 = .ok (.iload 4, 2) := dec_1 oX1_turnCount (of21 _) 4 rfl rfl
theorem dX1_turnCount_23 : decode cX1_turnCount 23 = .ok (.iaload, 1) := dec_0 oX1_turnCount (of46 _) rfl
theorem dX1_turnCount_24 : decode cX1_turnCount 24 = .ok (.istore 5, 2) := dec_1 oX1_turnCount (of54 _) 5 rfl rfl
theorem dX1_turnCount_26 : decode cX1_turnCount 26 = .ok (.iload 5, 2) := dec_1 oX1_turnCount (of21 _) 5 rfl rfl
theorem dX1_turnCount_28 : decode cX1_turnCount 28 = .ok (.ifCond .ge 6, 3) := dec_s2 oX1_turnCount (of156 _) 0 6 rfl (sg16p rfl) rfl
theorem dX1_turnCount_31 : decode cX1_turnCount 31 = .ok (.goto 45, 3) := dec_s2 oX1_turnCount (of167 _) 0 45 rfl (sg16p rfl) rfl
theorem dX1_turnCount_34 : decode cX1_turnCount 34 = .ok (.iload_n 2, 1) := dec_0 oX1_turnCount (of28 _) rfl
theorem dX1_turnCount_35 : decode cX1_turnCount 35 = .ok (.ifCond .lt 14, 3) := dec_s2 oX1_turnCount (of155 _) 0 14 rfl (sg16p rfl) rfl
theorem dX1_turnCount_38 : decode cX1_turnCount 38 = .ok (.iload 5, 2) := dec_1 oX1_turnCount (of21 _) 5 rfl rfl
theorem dX1_turnCount_40 : decode cX1_turnCount 40 = .ok (.iload_n 2, 1) := dec_0 oX1_turnCount (of28 _) rfl
theorem dX1_turnCount_41 : decode cX1_turnCount 41 = .ok (.if_icmp .ge 8, 3) := dec_s2 oX1_turnCount (of162 _) 0 8 rfl (sg16p rfl) rfl
theorem dX1_turnCount_44 : decode cX1_turnCount 44 = .ok (.iconst 1, 1) := dec_0 oX1_turnCount (of4 _) rfl
theorem dX1_turnCount_45 : decode cX1_turnCount 45 = .ok (.istore_n 3, 1) := dec_0 oX1_turnCount (of62 _) rfl
theorem dX1_turnCount_46 : decode cX1_turnCount 46 = .ok (.goto 27, 3) := dec_s2 oX1_turnCount (of167 _) 0 27 rfl (sg16p rfl) rfl
theorem dX1_turnCount_49 : decode cX1_turnCount 49 = .ok (.iload_n 2, 1) := dec_0 oX1_turnCount (of28 _) rfl
theorem dX1_turnCount_50 : decode cX1_turnCount 50 = .ok (.ifCond .lt 23, 3) := dec_s2 oX1_turnCount (of155 _) 0 23 rfl (sg16p rfl) rfl
theorem dX1_turnCount_53 : decode cX1_turnCount 53 = .ok (.iload 5, 2) := dec_1 oX1_turnCount (of21 _) 5 rfl rfl
theorem dX1_turnCount_55 : decode cX1_turnCount 55 = .ok (.iload_n 2, 1) := dec_0 oX1_turnCount (of28 _) rfl
theorem dX1_turnCount_56 : decode cX1_turnCount 56 = .ok (.if_icmp .le 17, 3) := dec_s2 oX1_turnCount (of164 _) 0 17 rfl (sg16p rfl) rfl
theorem dX1_turnCount_59 : decode cX1_turnCount 59 = .ok (.iload_n 1, 1) := dec_0 oX1_turnCount (of27 _) rfl
theorem dX1_turnCount_60 : decode cX1_turnCount 60 = .ok (.iload_n 3, 1) := dec_0 oX1_turnCount (of29 _) rfl
theorem dX1_turnCount_61 : decode cX1_turnCount 61 = .ok (.ifCond .eq 7, 3) := dec_s2 oX1_turnCount (of153 _) 0 7 rfl (sg16p rfl) rfl
theorem dX1_turnCount_64 : decode cX1_turnCount 64 = .ok (.iconst 1, 1) := dec_0 oX1_turnCount (of4 _) rfl
theorem dX1_turnCount_65 : decode cX1_turnCount 65 = .ok (.goto 4, 3) := dec_s2 oX1_turnCount (of167 _) 0 4 rfl (sg16p rfl) rfl
theorem dX1_turnCount_68 : decode cX1_turnCount 68 = .ok (.iconst 0, 1) := dec_0 oX1_turnCount (of3 _) rfl
theorem dX1_turnCount_69 : decode cX1_turnCount 69 = .ok (.iadd, 1) := dec_0 oX1_turnCount (of96 _) rfl
theorem dX1_turnCount_70 : decode cX1_turnCount 70 = .ok (.istore_n 1, 1) := dec_0 oX1_turnCount (of60 _) rfl
theorem dX1_turnCount_71 : decode cX1_turnCount 71 = .ok (.iconst 0, 1) := dec_0 oX1_turnCount (of3 _) rfl
theorem dX1_turnCount_72 : decode cX1_turnCount 72 = .ok (.istore_n 3, 1) := dec_0 oX1_turnCount (of62 _) rfl
theorem dX1_turnCount_73 : decode cX1_turnCount 73 = .ok (.iload 5, 2) := dec_1 oX1_turnCount (of21 _) 5 rfl rfl
theorem dX1_turnCount_75 : decode cX1_turnCount 75 = .ok (.istore_n 2, 1) := dec_0 oX1_turnCount (of61 _) rfl
theorem dX1_turnCount_76 : decode cX1_turnCount 76 = .ok (.iinc 4 1, 3) := dec_ii oX1_turnCount (of132 _) 4 1 rfl (sg8p rfl) rfl
theorem dX1_turnCount_79 : decode cX1_turnCount 79 = .ok (.goto (-70), 3) := dec_s2 oX1_turnCount (of167 _) 255 186 rfl (sg16n (k := 70) rfl) rfl
theorem dX1_turnCount_82 : decode cX1_turnCount 82 = .ok (.iload_n 1, 1) := dec_0 oX1_turnCount (of27 _) rfl
theorem dX1_turnCount_83 : decode cX1_turnCount 83 = .ok (.ireturn, 1) := dec_0 oX1_turnCount (of172 _) rfl
theorem dX1_slackSum_0 : decode cX1_slackSum 0 = .ok (.iconst 0, 1) := dec_0 oX1_slackSum (of3 _) rfl
theorem dX1_slackSum_1 : decode cX1_slackSum 1 = .ok (.istore_n 2, 1) := dec_0 oX1_slackSum (of61 _) rfl
theorem dX1_slackSum_2 : decode cX1_slackSum 2 = .ok (.aload_n 0, 1) := dec_0 oX1_slackSum (of42 _) rfl
theorem dX1_slackSum_3 : decode cX1_slackSum 3 = .ok (.getfield 28, 3) := dec_2 oX1_slackSum (of180 _) 0 28 rfl rfl
theorem dX1_slackSum_6 : decode cX1_slackSum 6 = .ok (.iload_n 1, 1) := dec_0 oX1_slackSum (of27 _) rfl
theorem dX1_slackSum_7 : decode cX1_slackSum 7 = .ok (.aload_n 0, 1) := dec_0 oX1_slackSum (of42 _) rfl
theorem dX1_slackSum_8 : decode cX1_slackSum 8 = .ok (.getfield 28, 3) := dec_2 oX1_slackSum (of180 _) 0 28 rfl rfl
theorem dX1_slackSum_11 : decode cX1_slackSum 11 = .ok (.getfield 45, 3) := dec_2 oX1_slackSum (of180 _) 0 45 rfl rfl
theorem dX1_slackSum_14 : decode cX1_slackSum 14 = .ok (.iconst 0, 1) := dec_0 oX1_slackSum (of3 _) rfl
theorem dX1_slackSum_15 : decode cX1_slackSum 15 = .ok (.invokevirtual 49, 3) := dec_2 oX1_slackSum (of182 _) 0 49 rfl rfl
theorem dX1_slackSum_18 : decode cX1_slackSum 18 = .ok (.invokevirtual 55, 3) := dec_2 oX1_slackSum (of182 _) 0 55 rfl rfl
theorem dX1_slackSum_21 : decode cX1_slackSum 21 = .ok (.iconst 0, 1) := dec_0 oX1_slackSum (of3 _) rfl
theorem dX1_slackSum_22 : decode cX1_slackSum 22 = .ok (.istore_n 3, 1) := dec_0 oX1_slackSum (of62 _) rfl
theorem dX1_slackSum_23 : decode cX1_slackSum 23 = .ok (.iload_n 3, 1) := dec_0 oX1_slackSum (of29 _) rfl
theorem dX1_slackSum_24 : decode cX1_slackSum 24 = .ok (.aload_n 0, 1) := dec_0 oX1_slackSum (of42 _) rfl
theorem dX1_slackSum_25 : decode cX1_slackSum 25 = .ok (.getfield 38, 3) := dec_2 oX1_slackSum (of180 _) 0 38 rfl rfl
theorem dX1_slackSum_28 : decode cX1_slackSum 28 = .ok (.getfield 59, 3) := dec_2 oX1_slackSum (of180 _) 0 59 rfl rfl
theorem dX1_slackSum_31 : decode cX1_slackSum 31 = .ok (.if_icmp .ge 79, 3) := dec_s2 oX1_slackSum (of162 _) 0 79 rfl (sg16p rfl) rfl
theorem dX1_slackSum_34 : decode cX1_slackSum 34 = .ok (.aload_n 0, 1) := dec_0 oX1_slackSum (of42 _) rfl
theorem dX1_slackSum_35 : decode cX1_slackSum 35 = .ok (.getfield 38, 3) := dec_2 oX1_slackSum (of180 _) 0 38 rfl rfl
theorem dX1_slackSum_38 : decode cX1_slackSum 38 = .ok (.iload_n 3, 1) := dec_0 oX1_slackSum (of29 _) rfl
theorem dX1_slackSum_39 : decode cX1_slackSum 39 = .ok (.aload_n 0, 1) := dec_0 oX1_slackSum (of42 _) rfl
theorem dX1_slackSum_40 : decode cX1_slackSum 40 = .ok (.getfield 43, 3) := dec_2 oX1_slackSum (of180 _) 0 43 rfl rfl
theorem dX1_slackSum_43 : decode cX1_slackSum 43 = .ok (.iload_n 1, 1) := dec_0 oX1_slackSum (of27 _) rfl
theorem dX1_slackSum_44 : decode cX1_slackSum 44 = .ok (.invokevirtual 65, 3) := dec_2 oX1_slackSum (of182 _) 0 65 rfl rfl
theorem dX1_slackSum_47 : decode cX1_slackSum 47 = .ok (.invokevirtual 70, 3) := dec_2 oX1_slackSum (of182 _) 0 70 rfl rfl
theorem dX1_slackSum_50 : decode cX1_slackSum 50 = .ok (.ifCond .eq 54, 3) := dec_s2 oX1_slackSum (of153 _) 0 54 rfl (sg16p rfl) rfl
theorem dX1_slackSum_53 : decode cX1_slackSum 53 = .ok (.aload_n 0, 1) := dec_0 oX1_slackSum (of42 _) rfl
theorem dX1_slackSum_54 : decode cX1_slackSum 54 = .ok (.getfield 28, 3) := dec_2 oX1_slackSum (of180 _) 0 28 rfl rfl
theorem dX1_slackSum_57 : decode cX1_slackSum 57 = .ok (.iload_n 3, 1) := dec_0 oX1_slackSum (of29 _) rfl
theorem dX1_slackSum_58 : decode cX1_slackSum 58 = .ok (.invokevirtual 74, 3) := dec_2 oX1_slackSum (of182 _) 0 74 rfl rfl
theorem dX1_slackSum_61 : decode cX1_slackSum 61 = .ok (.aload_n 0, 1) := dec_0 oX1_slackSum (of42 _) rfl
theorem dX1_slackSum_62 : decode cX1_slackSum 62 = .ok (.getfield 28, 3) := dec_2 oX1_slackSum (of180 _) 0 28 rfl rfl
theorem dX1_slackSum_65 : decode cX1_slackSum 65 = .ok (.getfield 78, 3) := dec_2 oX1_slackSum (of180 _) 0 78 rfl rfl
theorem dX1_slackSum_68 : decode cX1_slackSum 68 = .ok (.astore 4, 2) := dec_1 oX1_slackSum (of58 _) 4 rfl rfl
theorem dX1_slackSum_70 : decode cX1_slackSum 70 = .ok (.aload 4, 2) := dec_1 oX1_slackSum (of25 _) 4 rfl rfl
theorem dX1_slackSum_72 : decode cX1_slackSum 72 = .ok (.invokevirtual 148, 3) := dec_2 oX1_slackSum (of182 _) 0 148 rfl rfl
theorem dX1_slackSum_75 : decode cX1_slackSum 75 = .ok (.aload 4, 2) := dec_1 oX1_slackSum (of25 _) 4 rfl rfl
theorem dX1_slackSum_77 : decode cX1_slackSum 77 = .ok (.invokevirtual 151, 3) := dec_2 oX1_slackSum (of182 _) 0 151 rfl rfl
theorem dX1_slackSum_80 : decode cX1_slackSum 80 = .ok (.aload 4, 2) := dec_1 oX1_slackSum (of25 _) 4 rfl rfl
theorem dX1_slackSum_82 : decode cX1_slackSum 82 = .ok (.invokevirtual 154, 3) := dec_2 oX1_slackSum (of182 _) 0 154 rfl rfl
theorem dX1_slackSum_85 : decode cX1_slackSum 85 = .ok (.invokestatic 157, 3) := dec_2 oX1_slackSum (of184 _) 0 157 rfl rfl
theorem dX1_slackSum_88 : decode cX1_slackSum 88 = .ok (.invokestatic 157, 3) := dec_2 oX1_slackSum (of184 _) 0 157 rfl rfl
theorem dX1_slackSum_91 : decode cX1_slackSum 91 = .ok (.istore 5, 2) := dec_1 oX1_slackSum (of54 _) 5 rfl rfl
theorem dX1_slackSum_93 : decode cX1_slackSum 93 = .ok (.iload_n 2, 1) := dec_0 oX1_slackSum (of28 _) rfl
theorem dX1_slackSum_94 : decode cX1_slackSum 94 = .ok (.aload 4, 2) := dec_1 oX1_slackSum (of25 _) 4 rfl rfl
theorem dX1_slackSum_96 : decode cX1_slackSum 96 = .ok (.invokevirtual 113, 3) := dec_2 oX1_slackSum (of182 _) 0 113 rfl rfl
theorem dX1_slackSum_99 : decode cX1_slackSum 99 = .ok (.iload 5, 2) := dec_1 oX1_slackSum (of21 _) 5 rfl rfl
theorem dX1_slackSum_101 : decode cX1_slackSum 101 = .ok (.isub, 1) := dec_0 oX1_slackSum (of100 _) rfl
theorem dX1_slackSum_102 : decode cX1_slackSum 102 = .ok (.iadd, 1) := dec_0 oX1_slackSum (of96 _) rfl
theorem dX1_slackSum_103 : decode cX1_slackSum 103 = .ok (.istore_n 2, 1) := dec_0 oX1_slackSum (of61 _) rfl
theorem dX1_slackSum_104 : decode cX1_slackSum 104 = .ok (.iinc 3 1, 3) := dec_ii oX1_slackSum (of132 _) 3 1 rfl (sg8p rfl) rfl
theorem dX1_slackSum_107 : decode cX1_slackSum 107 = .ok (.goto (-84), 3) := dec_s2 oX1_slackSum (of167 _) 255 172 rfl (sg16n (k := 84) rfl) rfl
theorem dX1_slackSum_110 : decode cX1_slackSum 110 = .ok (.iload_n 2, 1) := dec_0 oX1_slackSum (of28 _) rfl
theorem dX1_slackSum_111 : decode cX1_slackSum 111 = .ok (.ireturn, 1) := dec_0 oX1_slackSum (of172 _) rfl
theorem dX1_nearestQuery_0 : decode cX1_nearestQuery 0 = .ok (.bipush (-2), 2) := dec_s1 oX1_nearestQuery (of16 _) 254 rfl (sg8n (k := 2) rfl) rfl
theorem dX1_nearestQuery_2 : decode cX1_nearestQuery 2 = .ok (.istore_n 3, 1) := dec_0 oX1_nearestQuery (of62 _) rfl
theorem dX1_nearestQuery_3 : decode cX1_nearestQuery 3 = .ok (.ldc 44, 2) := dec_1 oX1_nearestQuery (of18 _) 44 rfl rfl
theorem dX1_nearestQuery_5 : decode cX1_nearestQuery 5 = .ok (.istore 4, 2) := dec_1 oX1_nearestQuery (of54 _) 4 rfl rfl
theorem dX1_nearestQuery_7 : decode cX1_nearestQuery 7 = .ok (.iconst 0, 1) := dec_0 oX1_nearestQuery (of3 _) rfl
theorem dX1_nearestQuery_8 : decode cX1_nearestQuery 8 = .ok (.istore 5, 2) := dec_1 oX1_nearestQuery (of54 _) 5 rfl rfl
theorem dX1_nearestQuery_10 : decode cX1_nearestQuery 10 = .ok (.iload 5, 2) := dec_1 oX1_nearestQuery (of21 _) 5 rfl rfl
theorem dX1_nearestQuery_12 : decode cX1_nearestQuery 12 = .ok (.aload_n 0, 1) := dec_0 oX1_nearestQuery (of42 _) rfl
theorem dX1_nearestQuery_13 : decode cX1_nearestQuery 13 = .ok (.getfield 43, 3) := dec_2 oX1_nearestQuery (of180 _) 0 43 rfl rfl
theorem dX1_nearestQuery_16 : decode cX1_nearestQuery 16 = .ok (.getfield 161, 3) := dec_2 oX1_nearestQuery (of180 _) 0 161 rfl rfl
theorem dX1_nearestQuery_19 : decode cX1_nearestQuery 19 = .ok (.if_icmp .ge 61, 3) := dec_s2 oX1_nearestQuery (of162 _) 0 61 rfl (sg16p rfl) rfl
theorem dX1_nearestQuery_22 : decode cX1_nearestQuery 22 = .ok (.aload_n 0, 1) := dec_0 oX1_nearestQuery (of42 _) rfl
theorem dX1_nearestQuery_23 : decode cX1_nearestQuery 23 = .ok (.getfield 43, 3) := dec_2 oX1_nearestQuery (of180 _) 0 43 rfl rfl
theorem dX1_nearestQuery_26 : decode cX1_nearestQuery 26 = .ok (.iload 5, 2) := dec_1 oX1_nearestQuery (of21 _) 5 rfl rfl
theorem dX1_nearestQuery_28 : decode cX1_nearestQuery 28 = .ok (.invokevirtual 65, 3) := dec_2 oX1_nearestQuery (of182 _) 0 65 rfl rfl
theorem dX1_nearestQuery_31 : decode cX1_nearestQuery 31 = .ok (.iload_n 2, 1) := dec_0 oX1_nearestQuery (of28 _) rfl
theorem dX1_nearestQuery_32 : decode cX1_nearestQuery 32 = .ok (.if_icmp .ne 42, 3) := dec_s2 oX1_nearestQuery (of160 _) 0 42 rfl (sg16p rfl) rfl
theorem dX1_nearestQuery_35 : decode cX1_nearestQuery 35 = .ok (.aload_n 0, 1) := dec_0 oX1_nearestQuery (of42 _) rfl
theorem dX1_nearestQuery_36 : decode cX1_nearestQuery 36 = .ok (.getfield 28, 3) := dec_2 oX1_nearestQuery (of180 _) 0 28 rfl rfl
theorem dX1_nearestQuery_39 : decode cX1_nearestQuery 39 = .ok (.iload 5, 2) := dec_1 oX1_nearestQuery (of21 _) 5 rfl rfl
theorem dX1_nearestQuery_41 : decode cX1_nearestQuery 41 = .ok (.iload_n 1, 1) := dec_0 oX1_nearestQuery (of27 _) rfl
theorem dX1_nearestQuery_42 : decode cX1_nearestQuery 42 = .ok (.invokevirtual 162, 3) := dec_2 oX1_nearestQuery (of182 _) 0 162 rfl rfl
theorem dX1_nearestQuery_45 : decode cX1_nearestQuery 45 = .ok (.ifCond .eq 29, 3) := dec_s2 oX1_nearestQuery (of153 _) 0 29 rfl (sg16p rfl) rfl
theorem dX1_nearestQuery_48 : decode cX1_nearestQuery 48 = .ok (.aload_n 0, 1) := dec_0 oX1_nearestQuery (of42 _) rfl
theorem dX1_nearestQuery_49 : decode cX1_nearestQuery 49 = .ok (.getfield 28, 3) := dec_2 oX1_nearestQuery (of180 _) 0 28 rfl rfl
theorem dX1_nearestQuery_52 : decode cX1_nearestQuery 52 = .ok (.getfield 78, 3) := dec_2 oX1_nearestQuery (of180 _) 0 78 rfl rfl
theorem dX1_nearestQuery_55 : decode cX1_nearestQuery 55 = .ok (.invokevirtual 113, 3) := dec_2 oX1_nearestQuery (of182 _) 0 113 rfl rfl
theorem dX1_nearestQuery_58 : decode cX1_nearestQuery 58 = .ok (.istore 6, 2) := dec_1 oX1_nearestQuery (of54 _) 6 rfl rfl
theorem dX1_nearestQuery_60 : decode cX1_nearestQuery 60 = .ok (.iload 6, 2) := dec_1 oX1_nearestQuery (of21 _) 6 rfl rfl
theorem dX1_nearestQuery_62 : decode cX1_nearestQuery 62 = .ok (.iload 4, 2) := dec_1 oX1_nearestQuery (of21 _) 4 rfl rfl
theorem dX1_nearestQuery_64 : decode cX1_nearestQuery 64 = .ok (.if_icmp .ge 10, 3) := dec_s2 oX1_nearestQuery (of162 _) 0 10 rfl (sg16p rfl) rfl
theorem dX1_nearestQuery_67 : decode cX1_nearestQuery 67 = .ok (.iload 6, 2) := dec_1 oX1_nearestQuery (of21 _) 6 rfl rfl
theorem dX1_nearestQuery_69 : decode cX1_nearestQuery 69 = .ok (.istore 4, 2) := dec_1 oX1_nearestQuery (of54 _) 4 rfl rfl
theorem dX1_nearestQuery_71 : decode cX1_nearestQuery 71 = .ok (.iload 5, 2) := dec_1 oX1_nearestQuery (of21 _) 5 rfl rfl
theorem dX1_nearestQuery_73 : decode cX1_nearestQuery 73 = .ok (.istore_n 3, 1) := dec_0 oX1_nearestQuery (of62 _) rfl
theorem dX1_nearestQuery_74 : decode cX1_nearestQuery 74 = .ok (.iinc 5 1, 3) := dec_ii oX1_nearestQuery (of132 _) 5 1 rfl (sg8p rfl) rfl
theorem dX1_nearestQuery_77 : decode cX1_nearestQuery 77 = .ok (.goto (-67), 3) := dec_s2 oX1_nearestQuery (of167 _) 255 189 rfl (sg16n (k := 67) rfl) rfl
theorem dX1_nearestQuery_80 : decode cX1_nearestQuery 80 = .ok (.iload_n 3, 1) := dec_0 oX1_nearestQuery (of29 _) rfl
theorem dX1_nearestQuery_81 : decode cX1_nearestQuery 81 = .ok (.ireturn, 1) := dec_0 oX1_nearestQuery (of172 _) rfl
theorem dX1_firedBits_15 : decode cX1_firedBits 15 = .ok (.aload_n 0, 1) := dec_0 oX1_firedBits (of42 _) rfl
theorem dX1_firedBits_16 : decode cX1_firedBits 16 = .ok (.getfield 38, 3) := dec_2 oX1_firedBits (of180 _) 0 38 rfl rfl
theorem dX1_firedBits_19 : decode cX1_firedBits 19 = .ok (.getfield 59, 3) := dec_2 oX1_firedBits (of180 _) 0 59 rfl rfl
theorem dX1_firedBits_22 : decode cX1_firedBits 22 = .ok (.aload_n 0, 1) := dec_0 oX1_firedBits (of42 _) rfl
theorem dX1_firedBits_23 : decode cX1_firedBits 23 = .ok (.getfield 43, 3) := dec_2 oX1_firedBits (of180 _) 0 43 rfl rfl
theorem dX1_firedBits_26 : decode cX1_firedBits 26 = .ok (.iload_n 3, 1) := dec_0 oX1_firedBits (of29 _) rfl
theorem dX1_firedBits_27 : decode cX1_firedBits 27 = .ok (.invokevirtual 65, 3) := dec_2 oX1_firedBits (of182 _) 0 65 rfl rfl
theorem dX1_firedBits_30 : decode cX1_firedBits 30 = .ok (.isub, 1) := dec_0 oX1_firedBits (of100 _) rfl
theorem dX1_firedBits_31 : decode cX1_firedBits 31 = .ok (.istore 4, 2) := dec_1 oX1_firedBits (of54 _) 4 rfl rfl
theorem dX1_firedBits_33 : decode cX1_firedBits 33 = .ok (.aload_n 0, 1) := dec_0 oX1_firedBits (of42 _) rfl
theorem dX1_firedBits_34 : decode cX1_firedBits 34 = .ok (.getfield 28, 3) := dec_2 oX1_firedBits (of180 _) 0 28 rfl rfl
theorem dX1_firedBits_37 : decode cX1_firedBits 37 = .ok (.iload_n 3, 1) := dec_0 oX1_firedBits (of29 _) rfl
theorem dX1_firedBits_38 : decode cX1_firedBits 38 = .ok (.iload 4, 2) := dec_1 oX1_firedBits (of21 _) 4 rfl rfl
theorem dX1_firedBits_40 : decode cX1_firedBits 40 = .ok (.invokevirtual 162, 3) := dec_2 oX1_firedBits (of182 _) 0 162 rfl rfl
theorem dX1_firedBits_43 : decode cX1_firedBits 43 = .ok (.ifCond .eq 23, 3) := dec_s2 oX1_firedBits (of153 _) 0 23 rfl (sg16p rfl) rfl
theorem dX1_firedBits_46 : decode cX1_firedBits 46 = .ok (.aload_n 0, 1) := dec_0 oX1_firedBits (of42 _) rfl
theorem dX1_firedBits_47 : decode cX1_firedBits 47 = .ok (.getfield 28, 3) := dec_2 oX1_firedBits (of180 _) 0 28 rfl rfl
theorem dX1_firedBits_50 : decode cX1_firedBits 50 = .ok (.getfield 78, 3) := dec_2 oX1_firedBits (of180 _) 0 78 rfl rfl
theorem dX1_firedBits_53 : decode cX1_firedBits 53 = .ok (.invokevirtual 113, 3) := dec_2 oX1_firedBits (of182 _) 0 113 rfl rfl
theorem dX1_firedBits_56 : decode cX1_firedBits 56 = .ok (.iload_n 1, 1) := dec_0 oX1_firedBits (of27 _) rfl
theorem dX1_firedBits_57 : decode cX1_firedBits 57 = .ok (.if_icmp .gt 9, 3) := dec_s2 oX1_firedBits (of163 _) 0 9 rfl (sg16p rfl) rfl
theorem dX1_firedBits_60 : decode cX1_firedBits 60 = .ok (.iload_n 2, 1) := dec_0 oX1_firedBits (of28 _) rfl
theorem dX1_firedBits_61 : decode cX1_firedBits 61 = .ok (.iconst 1, 1) := dec_0 oX1_firedBits (of4 _) rfl
theorem dX1_firedBits_62 : decode cX1_firedBits 62 = .ok (.iload_n 3, 1) := dec_0 oX1_firedBits (of29 _) rfl
theorem dX1_firedBits_63 : decode cX1_firedBits 63 = .ok (.ishl, 1) := dec_0 oX1_firedBits (of120 _) rfl
theorem dX1_firedBits_64 : decode cX1_firedBits 64 = .ok (.ior, 1) := dec_0 oX1_firedBits (of128 _) rfl
theorem dX1_firedBits_65 : decode cX1_firedBits 65 = .ok (.istore_n 2, 1) := dec_0 oX1_firedBits (of61 _) rfl
theorem dX1_firedBits_66 : decode cX1_firedBits 66 = .ok (.iinc 3 1, 3) := dec_ii oX1_firedBits (of132 _) 3 1 rfl (sg8p rfl) rfl
theorem dX1_firedBits_69 : decode cX1_firedBits 69 = .ok (.goto (-65), 3) := dec_s2 oX1_firedBits (of167 _) 255 191 rfl (sg16n (k := 65) rfl) rfl
theorem dX2_begin_0 : decode cX2_begin 0 = .ok (.aload_n 0, 1) := dec_0 oX2_begin (of42 _) rfl
theorem dX2_begin_1 : decode cX2_begin 1 = .ok (.iconst 1, 1) := dec_0 oX2_begin (of4 _) rfl
theorem dX2_begin_2 : decode cX2_begin 2 = .ok (.iload_n 1, 1) := dec_0 oX2_begin (of27 _) rfl
theorem dX2_begin_3 : decode cX2_begin 3 = .ok (.bipush 16, 2) := dec_s1 oX2_begin (of16 _) 16 rfl (sg8p rfl) rfl
theorem dX2_begin_5 : decode cX2_begin 5 = .ok (.invokestatic 28, 3) := dec_2 oX2_begin (of184 _) 0 28 rfl rfl
theorem dX2_begin_8 : decode cX2_begin 8 = .ok (.invokestatic 34, 3) := dec_2 oX2_begin (of184 _) 0 34 rfl rfl
theorem dX2_begin_11 : decode cX2_begin 11 = .ok (.putfield 24, 3) := dec_2 oX2_begin (of181 _) 0 24 rfl rfl
theorem dX2_begin_14 : decode cX2_begin 14 = .ok (.aload_n 0, 1) := dec_0 oX2_begin (of42 _) rfl
theorem dX2_begin_15 : decode cX2_begin 15 = .ok (.iconst 0, 1) := dec_0 oX2_begin (of3 _) rfl
theorem dX2_begin_16 : decode cX2_begin 16 = .ok (.iload_n 2, 1) := dec_0 oX2_begin (of28 _) rfl
theorem dX2_begin_17 : decode cX2_begin 17 = .ok (.invokestatic 34, 3) := dec_2 oX2_begin (of184 _) 0 34 rfl rfl
theorem dX2_begin_20 : decode cX2_begin 20 = .ok (.putfield 37, 3) := dec_2 oX2_begin (of181 _) 0 37 rfl rfl
theorem dX2_begin_23 : decode cX2_begin 23 = .ok (.aload_n 0, 1) := dec_0 oX2_begin (of42 _) rfl
theorem dX2_begin_24 : decode cX2_begin 24 = .ok (.iload_n 3, 1) := dec_0 oX2_begin (of29 _) rfl
theorem dX2_begin_25 : decode cX2_begin 25 = .ok (.iconst 1, 1) := dec_0 oX2_begin (of4 _) rfl
theorem dX2_begin_26 : decode cX2_begin 26 = .ok (.if_icmp .ne 7, 3) := dec_s2 oX2_begin (of160 _) 0 7 rfl (sg16p rfl) rfl
theorem dX2_begin_29 : decode cX2_begin 29 = .ok (.iconst 1, 1) := dec_0 oX2_begin (of4 _) rfl
theorem dX2_begin_30 : decode cX2_begin 30 = .ok (.goto 4, 3) := dec_s2 oX2_begin (of167 _) 0 4 rfl (sg16p rfl) rfl
theorem dX2_begin_33 : decode cX2_begin 33 = .ok (.iconst 0, 1) := dec_0 oX2_begin (of3 _) rfl
theorem dX2_begin_34 : decode cX2_begin 34 = .ok (.putfield 42, 3) := dec_2 oX2_begin (of181 _) 0 42 rfl rfl
theorem dX2_begin_37 : decode cX2_begin 37 = .ok (.return_, 1) := dec_0 oX2_begin (of177 _) rfl
theorem dX2_takeLeft_0 : decode cX2_takeLeft 0 = .ok (.aload_n 0, 1) := dec_0 oX2_takeLeft (of42 _) rfl
theorem dX2_takeLeft_1 : decode cX2_takeLeft 1 = .ok (.aload_n 1, 1) := dec_0 oX2_takeLeft (of43 _) rfl
theorem dX2_takeLeft_2 : decode cX2_takeLeft 2 = .ok (.iload_n 2, 1) := dec_0 oX2_takeLeft (of28 _) rfl
theorem dX2_takeLeft_3 : decode cX2_takeLeft 3 = .ok (.aload_n 0, 1) := dec_0 oX2_takeLeft (of42 _) rfl
theorem dX2_takeLeft_4 : decode cX2_takeLeft 4 = .ok (.getfield 9, 3) := dec_2 oX2_takeLeft (of180 _) 0 9 rfl rfl
theorem dX2_takeLeft_7 : decode cX2_takeLeft 7 = .ok (.iconst 0, 1) := dec_0 oX2_takeLeft (of3 _) rfl
theorem dX2_takeLeft_8 : decode cX2_takeLeft 8 = .ok (.invokevirtual 46, 3) := dec_2 oX2_takeLeft (of182 _) 0 46 rfl rfl
theorem dX2_takeLeft_11 : decode cX2_takeLeft 11 = .ok (.return_, 1) := dec_0 oX2_takeLeft (of177 _) rfl
theorem dX2_takeRight_0 : decode cX2_takeRight 0 = .ok (.aload_n 0, 1) := dec_0 oX2_takeRight (of42 _) rfl
theorem dX2_takeRight_1 : decode cX2_takeRight 1 = .ok (.aload_n 1, 1) := dec_0 oX2_takeRight (of43 _) rfl
theorem dX2_takeRight_2 : decode cX2_takeRight 2 = .ok (.iload_n 2, 1) := dec_0 oX2_takeRight (of28 _) rfl
theorem dX2_takeRight_3 : decode cX2_takeRight 3 = .ok (.aload_n 0, 1) := dec_0 oX2_takeRight (of42 _) rfl
theorem dX2_takeRight_4 : decode cX2_takeRight 4 = .ok (.getfield 15, 3) := dec_2 oX2_takeRight (of180 _) 0 15 rfl rfl
theorem dX2_takeRight_7 : decode cX2_takeRight 7 = .ok (.iconst 0, 1) := dec_0 oX2_takeRight (of3 _) rfl
theorem dX2_takeRight_8 : decode cX2_takeRight 8 = .ok (.invokevirtual 46, 3) := dec_2 oX2_takeRight (of182 _) 0 46 rfl rfl
theorem dX2_takeRight_11 : decode cX2_takeRight 11 = .ok (.return_, 1) := dec_0 oX2_takeRight (of177 _) rfl
theorem dX2_giveLeft_0 : decode cX2_giveLeft 0 = .ok (.aload_n 0, 1) := dec_0 oX2_giveLeft (of42 _) rfl
theorem dX2_giveLeft_1 : decode cX2_giveLeft 1 = .ok (.aload_n 0, 1) := dec_0 oX2_giveLeft (of42 _) rfl
theorem dX2_giveLeft_2 : decode cX2_giveLeft 2 = .ok (.getfield 9, 3) := dec_2 oX2_giveLeft (of180 _) 0 9 rfl rfl
theorem dX2_giveLeft_5 : decode cX2_giveLeft 5 = .ok (.iconst 0, 1) := dec_0 oX2_giveLeft (of3 _) rfl
theorem dX2_giveLeft_6 : decode cX2_giveLeft 6 = .ok (.aload_n 1, 1) := dec_0 oX2_giveLeft (of43 _) rfl
theorem dX2_giveLeft_7 : decode cX2_giveLeft 7 = .ok (.iload_n 2, 1) := dec_0 oX2_giveLeft (of28 _) rfl
theorem dX2_giveLeft_8 : decode cX2_giveLeft 8 = .ok (.invokevirtual 46, 3) := dec_2 oX2_giveLeft (of182 _) 0 46 rfl rfl
theorem dX2_giveLeft_11 : decode cX2_giveLeft 11 = .ok (.return_, 1) := dec_0 oX2_giveLeft (of177 _) rfl
theorem dX2_copyRow_0 : decode cX2_copyRow 0 = .ok (.iload_n 2, 1) := dec_0 oX2_copyRow (of28 _) rfl
theorem dX2_copyRow_1 : decode cX2_copyRow 1 = .ok (.ifCond .lt 31, 3) := dec_s2 oX2_copyRow (of155 _) 0 31 rfl (sg16p rfl) rfl
theorem dX2_copyRow_4 : decode cX2_copyRow 4 = .ok (.iload 4, 2) := dec_1 oX2_copyRow (of21 _) 4 rfl rfl
theorem dX2_copyRow_6 : decode cX2_copyRow 6 = .ok (.ifCond .lt 26, 3) := dec_s2 oX2_copyRow (of155 _) 0 26 rfl (sg16p rfl) rfl
theorem dX2_copyRow_9 : decode cX2_copyRow 9 = .ok (.aload_n 0, 1) := dec_0 oX2_copyRow (of42 _) rfl
theorem dX2_copyRow_10 : decode cX2_copyRow 10 = .ok (.getfield 24, 3) := dec_2 oX2_copyRow (of180 _) 0 24 rfl rfl
theorem dX2_copyRow_13 : decode cX2_copyRow 13 = .ok (.aload_n 1, 1) := dec_0 oX2_copyRow (of43 _) rfl
theorem dX2_copyRow_14 : decode cX2_copyRow 14 = .ok (.arraylength, 1) := dec_0 oX2_copyRow (of190 _) rfl
theorem dX2_copyRow_15 : decode cX2_copyRow 15 = .ok (.iload_n 2, 1) := dec_0 oX2_copyRow (of28 _) rfl
theorem dX2_copyRow_16 : decode cX2_copyRow 16 = .ok (.isub, 1) := dec_0 oX2_copyRow (of100 _) rfl
theorem dX2_copyRow_17 : decode cX2_copyRow 17 = .ok (.if_icmp .gt 15, 3) := dec_s2 oX2_copyRow (of163 _) 0 15 rfl (sg16p rfl) rfl
theorem dX2_copyRow_20 : decode cX2_copyRow 20 = .ok (.aload_n 0, 1) := dec_0 oX2_copyRow (of42 _) rfl
theorem dX2_copyRow_21 : decode cX2_copyRow 21 = .ok (.getfield 24, 3) := dec_2 oX2_copyRow (of180 _) 0 24 rfl rfl
theorem dX2_copyRow_24 : decode cX2_copyRow 24 = .ok (.aload_n 3, 1) := dec_0 oX2_copyRow (of45 _) rfl
theorem dX2_copyRow_25 : decode cX2_copyRow 25 = .ok (.arraylength, 1) := dec_0 oX2_copyRow (of190 _) rfl
theorem dX2_copyRow_26 : decode cX2_copyRow 26 = .ok (.iload 4, 2) := dec_1 oX2_copyRow (of21 _) 4 rfl rfl
theorem dX2_copyRow_28 : decode cX2_copyRow 28 = .ok (.isub, 1) := dec_0 oX2_copyRow (of100 _) rfl
theorem dX2_copyRow_29 : decode cX2_copyRow 29 = .ok (.if_icmp .le 4, 3) := dec_s2 oX2_copyRow (of164 _) 0 4 rfl (sg16p rfl) rfl
theorem dX2_copyRow_32 : decode cX2_copyRow 32 = .ok (.return_, 1) := dec_0 oX2_copyRow (of177 _) rfl
theorem dX2_copyRow_33 : decode cX2_copyRow 33 = .ok (.iconst 0, 1) := dec_0 oX2_copyRow (of3 _) rfl
theorem dX2_copyRow_34 : decode cX2_copyRow 34 = .ok (.istore 5, 2) := dec_1 oX2_copyRow (of54 _) 5 rfl rfl
theorem dX2_copyRow_36 : decode cX2_copyRow 36 = .ok (.iload 5, 2) := dec_1 oX2_copyRow (of21 _) 5 rfl rfl
theorem dX2_copyRow_38 : decode cX2_copyRow 38 = .ok (.aload_n 0, 1) := dec_0 oX2_copyRow (of42 _) rfl
theorem dX2_copyRow_39 : decode cX2_copyRow 39 = .ok (.getfield 24, 3) := dec_2 oX2_copyRow (of180 _) 0 24 rfl rfl
theorem dX2_copyRow_42 : decode cX2_copyRow 42 = .ok (.if_icmp .ge 22, 3) := dec_s2 oX2_copyRow (of162 _) 0 22 rfl (sg16p rfl) rfl
theorem dX2_copyRow_45 : decode cX2_copyRow 45 = .ok (.aload_n 3, 1) := dec_0 oX2_copyRow (of45 _) rfl
theorem dX2_copyRow_46 : decode cX2_copyRow 46 = .ok (.iload 4, 2) := dec_1 oX2_copyRow (of21 _) 4 rfl rfl
theorem dX2_copyRow_48 : decode cX2_copyRow 48 = .ok (.iload 5, 2) := dec_1 oX2_copyRow (of21 _) 5 rfl rfl
theorem dX2_copyRow_50 : decode cX2_copyRow 50 = .ok (.iadd, 1) := dec_0 oX2_copyRow (of96 _) rfl
theorem dX2_copyRow_51 : decode cX2_copyRow 51 = .ok (.aload_n 1, 1) := dec_0 oX2_copyRow (of43 _) rfl
theorem dX2_copyRow_52 : decode cX2_copyRow 52 = .ok (.iload_n 2, 1) := dec_0 oX2_copyRow (of28 _) rfl
theorem dX2_copyRow_53 : decode cX2_copyRow 53 = .ok (.iload 5, 2) := dec_1 oX2_copyRow (of21 _) 5 rfl rfl
theorem dX2_copyRow_55 : decode cX2_copyRow 55 = .ok (.iadd, 1) := dec_0 oX2_copyRow (of96 _) rfl
theorem dX2_copyRow_56 : decode cX2_copyRow 56 = .ok (.iaload, 1) := dec_0 oX2_copyRow (of46 _) rfl
theorem dX2_copyRow_57 : decode cX2_copyRow 57 = .ok (.iastore, 1) := dec_0 oX2_copyRow (of79 _) rfl
theorem dX2_copyRow_58 : decode cX2_copyRow 58 = .ok (.iinc 5 1, 3) := dec_ii oX2_copyRow (of132 _) 5 1 rfl (sg8p rfl) rfl
theorem dX2_copyRow_61 : decode cX2_copyRow 61 = .ok (.goto (-25), 3) := dec_s2 oX2_copyRow (of167 _) 255 231 rfl (sg16n (k := 25) rfl) rfl
theorem dX2_copyRow_64 : decode cX2_copyRow 64 = .ok (.return_, 1) := dec_0 oX2_copyRow (of177 _) rfl
theorem dX2_bringToLevel_0 : decode cX2_bringToLevel 0 = .ok (.aload_n 0, 1) := dec_0 oX2_bringToLevel (of42 _) rfl
theorem dX2_bringToLevel_1 : decode cX2_bringToLevel 1 = .ok (.getfield 24, 3) := dec_2 oX2_bringToLevel (of180 _) 0 24 rfl rfl
theorem dX2_bringToLevel_4 : decode cX2_bringToLevel 4 = .ok (.iconst 1, 1) := dec_0 oX2_bringToLevel (of4 _) rfl
theorem dX2_bringToLevel_5 : decode cX2_bringToLevel 5 = .ok (.if_icmp .lt 12, 3) := dec_s2 oX2_bringToLevel (of161 _) 0 12 rfl (sg16p rfl) rfl
theorem dX2_bringToLevel_8 : decode cX2_bringToLevel 8 = .ok (.aload_n 0, 1) := dec_0 oX2_bringToLevel (of42 _) rfl
theorem dX2_bringToLevel_9 : decode cX2_bringToLevel 9 = .ok (.getfield 24, 3) := dec_2 oX2_bringToLevel (of180 _) 0 24 rfl rfl
theorem dX2_bringToLevel_12 : decode cX2_bringToLevel 12 = .ok (.aload_n 1, 1) := dec_0 oX2_bringToLevel (of43 _) rfl
theorem dX2_bringToLevel_13 : decode cX2_bringToLevel 13 = .ok (.arraylength, 1) := dec_0 oX2_bringToLevel (of190 _) rfl
theorem dX2_bringToLevel_14 : decode cX2_bringToLevel 14 = .ok (.if_icmp .le 4, 3) := dec_s2 oX2_bringToLevel (of164 _) 0 4 rfl (sg16p rfl) rfl
theorem dX2_bringToLevel_17 : decode cX2_bringToLevel 17 = .ok (.return_, 1) := dec_0 oX2_bringToLevel (of177 _) rfl
theorem dX2_bringToLevel_18 : decode cX2_bringToLevel 18 = .ok (.iload_n 2, 1) := dec_0 oX2_bringToLevel (of28 _) rfl
theorem dX2_bringToLevel_19 : decode cX2_bringToLevel 19 = .ok (.iconst 1, 1) := dec_0 oX2_bringToLevel (of4 _) rfl
theorem dX2_bringToLevel_20 : decode cX2_bringToLevel 20 = .ok (.if_icmp .ne 23, 3) := dec_s2 oX2_bringToLevel (of160 _) 0 23 rfl (sg16p rfl) rfl
theorem dX2_bringToLevel_23 : decode cX2_bringToLevel 23 = .ok (.aload_n 0, 1) := dec_0 oX2_bringToLevel (of42 _) rfl
theorem dX2_bringToLevel_24 : decode cX2_bringToLevel 24 = .ok (.aload_n 1, 1) := dec_0 oX2_bringToLevel (of43 _) rfl
theorem dX2_bringToLevel_25 : decode cX2_bringToLevel 25 = .ok (.aload_n 0, 1) := dec_0 oX2_bringToLevel (of42 _) rfl
theorem dX2_bringToLevel_26 : decode cX2_bringToLevel 26 = .ok (.aload_n 1, 1) := dec_0 oX2_bringToLevel (of43 _) rfl
theorem dX2_bringToLevel_27 : decode cX2_bringToLevel 27 = .ok (.invokevirtual 50, 3) := dec_2 oX2_bringToLevel (of182 _) 0 50 rfl rfl
theorem dX2_bringToLevel_30 : decode cX2_bringToLevel 30 = .ok (.aload_n 0, 1) := dec_0 oX2_bringToLevel (of42 _) rfl
theorem dX2_bringToLevel_31 : decode cX2_bringToLevel 31 = .ok (.getfield 24, 3) := dec_2 oX2_bringToLevel (of180 _) 0 24 rfl rfl
theorem dX2_bringToLevel_34 : decode cX2_bringToLevel 34 = .ok (.invokestatic 54, 3) := dec_2 oX2_bringToLevel (of184 _) 0 54 rfl rfl
theorem dX2_bringToLevel_37 : decode cX2_bringToLevel 37 = .ok (.invokevirtual 57, 3) := dec_2 oX2_bringToLevel (of182 _) 0 57 rfl rfl
theorem dX2_bringToLevel_40 : decode cX2_bringToLevel 40 = .ok (.goto 29, 3) := dec_s2 oX2_bringToLevel (of167 _) 0 29 rfl (sg16p rfl) rfl
theorem dX2_bringToLevel_43 : decode cX2_bringToLevel 43 = .ok (.iload_n 2, 1) := dec_0 oX2_bringToLevel (of28 _) rfl
theorem dX2_bringToLevel_44 : decode cX2_bringToLevel 44 = .ok (.iconst 2, 1) := dec_0 oX2_bringToLevel (of5 _) rfl
theorem dX2_bringToLevel_45 : decode cX2_bringToLevel 45 = .ok (.if_icmp .ne 14, 3) := dec_s2 oX2_bringToLevel (of160 _) 0 14 rfl (sg16p rfl) rfl
theorem dX2_bringToLevel_48 : decode cX2_bringToLevel 48 = .ok (.aload_n 0, 1) := dec_0 oX2_bringToLevel (of42 _) rfl
theorem dX2_bringToLevel_49 : decode cX2_bringToLevel 49 = .ok (.aload_n 1, 1) := dec_0 oX2_bringToLevel (of43 _) rfl
theorem dX2_bringToLevel_50 : decode cX2_bringToLevel 50 = .ok (.aload_n 1, 1) := dec_0 oX2_bringToLevel (of43 _) rfl
theorem dX2_bringToLevel_51 : decode cX2_bringToLevel 51 = .ok (.iconst 0, 1) := dec_0 oX2_bringToLevel (of3 _) rfl
theorem dX2_bringToLevel_52 : decode cX2_bringToLevel 52 = .ok (.iaload, 1) := dec_0 oX2_bringToLevel (of46 _) rfl
theorem dX2_bringToLevel_53 : decode cX2_bringToLevel 53 = .ok (.invokevirtual 57, 3) := dec_2 oX2_bringToLevel (of182 _) 0 57 rfl rfl
theorem dX2_bringToLevel_56 : decode cX2_bringToLevel 56 = .ok (.goto 13, 3) := dec_s2 oX2_bringToLevel (of167 _) 0 13 rfl (sg16p rfl) rfl
theorem dX2_bringToLevel_59 : decode cX2_bringToLevel 59 = .ok (.iload_n 2, 1) := dec_0 oX2_bringToLevel (of28 _) rfl
theorem dX2_bringToLevel_60 : decode cX2_bringToLevel 60 = .ok (.iconst 3, 1) := dec_0 oX2_bringToLevel (of6 _) rfl
theorem dX2_bringToLevel_61 : decode cX2_bringToLevel 61 = .ok (.if_icmp .ne 8, 3) := dec_s2 oX2_bringToLevel (of160 _) 0 8 rfl (sg16p rfl) rfl
theorem dX2_bringToLevel_64 : decode cX2_bringToLevel 64 = .ok (.aload_n 0, 1) := dec_0 oX2_bringToLevel (of42 _) rfl
theorem dX2_bringToLevel_65 : decode cX2_bringToLevel 65 = .ok (.aload_n 1, 1) := dec_0 oX2_bringToLevel (of43 _) rfl
theorem dX2_bringToLevel_66 : decode cX2_bringToLevel 66 = .ok (.invokevirtual 61, 3) := dec_2 oX2_bringToLevel (of182 _) 0 61 rfl rfl
theorem dX2_bringToLevel_69 : decode cX2_bringToLevel 69 = .ok (.return_, 1) := dec_0 oX2_bringToLevel (of177 _) rfl
theorem dX2_sumOf_0 : decode cX2_sumOf 0 = .ok (.iconst 0, 1) := dec_0 oX2_sumOf (of3 _) rfl
theorem dX2_sumOf_1 : decode cX2_sumOf 1 = .ok (.istore_n 2, 1) := dec_0 oX2_sumOf (of61 _) rfl
theorem dX2_sumOf_2 : decode cX2_sumOf 2 = .ok (.iconst 0, 1) := dec_0 oX2_sumOf (of3 _) rfl
theorem dX2_sumOf_3 : decode cX2_sumOf 3 = .ok (.istore_n 3, 1) := dec_0 oX2_sumOf (of62 _) rfl
theorem dX2_sumOf_4 : decode cX2_sumOf 4 = .ok (.iload_n 3, 1) := dec_0 oX2_sumOf (of29 _) rfl
theorem dX2_sumOf_5 : decode cX2_sumOf 5 = .ok (.aload_n 0, 1) := dec_0 oX2_sumOf (of42 _) rfl
theorem dX2_sumOf_6 : decode cX2_sumOf 6 = .ok (.getfield 24, 3) := dec_2 oX2_sumOf (of180 _) 0 24 rfl rfl
theorem dX2_sumOf_9 : decode cX2_sumOf 9 = .ok (.if_icmp .ge 21, 3) := dec_s2 oX2_sumOf (of162 _) 0 21 rfl (sg16p rfl) rfl
theorem dX2_sumOf_12 : decode cX2_sumOf 12 = .ok (.iload_n 3, 1) := dec_0 oX2_sumOf (of29 _) rfl
theorem dX2_sumOf_13 : decode cX2_sumOf 13 = .ok (.aload_n 1, 1) := dec_0 oX2_sumOf (of43 _) rfl
theorem dX2_sumOf_14 : decode cX2_sumOf 14 = .ok (.arraylength, 1) := dec_0 oX2_sumOf (of190 _) rfl
theorem dX2_sumOf_15 : decode cX2_sumOf 15 = .ok (.if_icmp .ge 15, 3) := dec_s2 oX2_sumOf (of162 _) 0 15 rfl (sg16p rfl) rfl
theorem dX2_sumOf_18 : decode cX2_sumOf 18 = .ok (.iload_n 2, 1) := dec_0 oX2_sumOf (of28 _) rfl
theorem dX2_sumOf_19 : decode cX2_sumOf 19 = .ok (.aload_n 1, 1) := dec_0 oX2_sumOf (of43 _) rfl
theorem dX2_sumOf_20 : decode cX2_sumOf 20 = .ok (.iload_n 3, 1) := dec_0 oX2_sumOf (of29 _) rfl
theorem dX2_sumOf_21 : decode cX2_sumOf 21 = .ok (.iaload, 1) := dec_0 oX2_sumOf (of46 _) rfl
theorem dX2_sumOf_22 : decode cX2_sumOf 22 = .ok (.iadd, 1) := dec_0 oX2_sumOf (of96 _) rfl
theorem dX2_sumOf_23 : decode cX2_sumOf 23 = .ok (.istore_n 2, 1) := dec_0 oX2_sumOf (of61 _) rfl
theorem dX2_sumOf_24 : decode cX2_sumOf 24 = .ok (.iinc 3 1, 3) := dec_ii oX2_sumOf (of132 _) 3 1 rfl (sg8p rfl) rfl
theorem dX2_sumOf_27 : decode cX2_sumOf 27 = .ok (.goto (-23), 3) := dec_s2 oX2_sumOf (of167 _) 255 233 rfl (sg16n (k := 23) rfl) rfl
theorem dX2_sumOf_30 : decode cX2_sumOf 30 = .ok (.iload_n 2, 1) := dec_0 oX2_sumOf (of28 _) rfl
theorem dX2_sumOf_31 : decode cX2_sumOf 31 = .ok (.ireturn, 1) := dec_0 oX2_sumOf (of172 _) rfl
theorem dX2_lessenAll_0 : decode cX2_lessenAll 0 = .ok (.iconst 0, 1) := dec_0 oX2_lessenAll (of3 _) rfl
theorem dX2_lessenAll_1 : decode cX2_lessenAll 1 = .ok (.istore_n 3, 1) := dec_0 oX2_lessenAll (of62 _) rfl
theorem dX2_lessenAll_2 : decode cX2_lessenAll 2 = .ok (.iload_n 3, 1) := dec_0 oX2_lessenAll (of29 _) rfl
theorem dX2_lessenAll_3 : decode cX2_lessenAll 3 = .ok (.aload_n 0, 1) := dec_0 oX2_lessenAll (of42 _) rfl
theorem dX2_lessenAll_4 : decode cX2_lessenAll 4 = .ok (.getfield 24, 3) := dec_2 oX2_lessenAll (of180 _) 0 24 rfl rfl
theorem dX2_lessenAll_7 : decode cX2_lessenAll 7 = .ok (.if_icmp .ge 22, 3) := dec_s2 oX2_lessenAll (of162 _) 0 22 rfl (sg16p rfl) rfl
theorem dX2_lessenAll_10 : decode cX2_lessenAll 10 = .ok (.iload_n 3, 1) := dec_0 oX2_lessenAll (of29 _) rfl
theorem dX2_lessenAll_11 : decode cX2_lessenAll 11 = .ok (.aload_n 1, 1) := dec_0 oX2_lessenAll (of43 _) rfl
theorem dX2_lessenAll_12 : decode cX2_lessenAll 12 = .ok (.arraylength, 1) := dec_0 oX2_lessenAll (of190 _) rfl
theorem dX2_lessenAll_13 : decode cX2_lessenAll 13 = .ok (.if_icmp .ge 16, 3) := dec_s2 oX2_lessenAll (of162 _) 0 16 rfl (sg16p rfl) rfl
theorem dX2_lessenAll_16 : decode cX2_lessenAll 16 = .ok (.aload_n 1, 1) := dec_0 oX2_lessenAll (of43 _) rfl
theorem dX2_lessenAll_17 : decode cX2_lessenAll 17 = .ok (.iload_n 3, 1) := dec_0 oX2_lessenAll (of29 _) rfl
theorem dX2_lessenAll_18 : decode cX2_lessenAll 18 = .ok (.dup2, 1) := dec_0 oX2_lessenAll (of92 _) rfl
theorem dX2_lessenAll_19 : decode cX2_lessenAll 19 = .ok (.iaload, 1) := dec_0 oX2_lessenAll (of46 _) rfl
theorem dX2_lessenAll_20 : decode cX2_lessenAll 20 = .ok (.iload_n 2, 1) := dec_0 oX2_lessenAll (of28 _) rfl
theorem dX2_lessenAll_21 : decode cX2_lessenAll 21 = .ok (.isub, 1) := dec_0 oX2_lessenAll (of100 _) rfl
theorem dX2_lessenAll_22 : decode cX2_lessenAll 22 = .ok (.iastore, 1) := dec_0 oX2_lessenAll (of79 _) rfl
theorem dX2_lessenAll_23 : decode cX2_lessenAll 23 = .ok (.iinc 3 1, 3) := dec_ii oX2_lessenAll (of132 _) 3 1 rfl (sg8p rfl) rfl
theorem dX2_lessenAll_26 : decode cX2_lessenAll 26 = .ok (.goto (-24), 3) := dec_s2 oX2_lessenAll (of167 _) 255 232 rfl (sg16n (k := 24) rfl) rfl
theorem dX2_lessenAll_29 : decode cX2_lessenAll 29 = .ok (.return_, 1) := dec_0 oX2_lessenAll (of177 _) rfl
theorem dX2_spreadAll_0 : decode cX2_spreadAll 0 = .ok (.aload_n 1, 1) := dec_0 oX2_spreadAll (of43 _) rfl
theorem dX2_spreadAll_1 : decode cX2_spreadAll 1 = .ok (.iconst 0, 1) := dec_0 oX2_spreadAll (of3 _) rfl
theorem dX2_spreadAll_2 : decode cX2_spreadAll 2 = .ok (.iaload, 1) := dec_0 oX2_spreadAll (of46 _) rfl
theorem dX2_spreadAll_3 : decode cX2_spreadAll 3 = .ok (.istore_n 2, 1) := dec_0 oX2_spreadAll (of61 _) rfl
theorem dX2_spreadAll_4 : decode cX2_spreadAll 4 = .ok (.aload_n 1, 1) := dec_0 oX2_spreadAll (of43 _) rfl
theorem dX2_spreadAll_5 : decode cX2_spreadAll 5 = .ok (.iconst 0, 1) := dec_0 oX2_spreadAll (of3 _) rfl
theorem dX2_spreadAll_6 : decode cX2_spreadAll 6 = .ok (.iaload, 1) := dec_0 oX2_spreadAll (of46 _) rfl
theorem dX2_spreadAll_7 : decode cX2_spreadAll 7 = .ok (.istore_n 3, 1) := dec_0 oX2_spreadAll (of62 _) rfl
theorem dX2_spreadAll_8 : decode cX2_spreadAll 8 = .ok (.iconst 1, 1) := dec_0 oX2_spreadAll (of4 _) rfl
theorem dX2_spreadAll_9 : decode cX2_spreadAll 9 = .ok (.istore 4, 2) := dec_1 oX2_spreadAll (of54 _) 4 rfl rfl
theorem dX2_spreadAll_11 : decode cX2_spreadAll 11 = .ok (.iload 4, 2) := dec_1 oX2_spreadAll (of21 _) 4 rfl rfl
theorem dX2_spreadAll_13 : decode cX2_spreadAll 13 = .ok (.aload_n 0, 1) := dec_0 oX2_spreadAll (of42 _) rfl
theorem dX2_spreadAll_14 : decode cX2_spreadAll 14 = .ok (.getfield 24, 3) := dec_2 oX2_spreadAll (of180 _) 0 24 rfl rfl
theorem dX2_spreadAll_17 : decode cX2_spreadAll 17 = .ok (.if_icmp .ge 27, 3) := dec_s2 oX2_spreadAll (of162 _) 0 27 rfl (sg16p rfl) rfl
theorem dX2_spreadAll_20 : decode cX2_spreadAll 20 = .ok (.iload_n 2, 1) := dec_0 oX2_spreadAll (of28 _) rfl
end
section
theorem dX2_spreadAll_21 : decode cX2_spreadAll 21 = .ok (.aload_n 1, 1) := dec_0 oX2_spreadAll (of43 _) rfl
theorem dX2_spreadAll_22 : decode cX2_spreadAll 22 = .ok (.iload 4, 2) := dec_1 oX2_spreadAll (of21 _) 4 rfl rfl
theorem dX2_spreadAll_24 : decode cX2_spreadAll 24 = .ok (.iaload, 1) := dec_0 oX2_spreadAll (of46 _) rfl
theorem dX2_spreadAll_25 : decode cX2_spreadAll 25 = .ok (.invokestatic 28, 3) := dec_2 oX2_spreadAll (of184 _) 0 28 rfl rfl
theorem dX2_spreadAll_28 : decode cX2_spreadAll 28 = .ok (.istore_n 2, 1) := dec_0 oX2_spreadAll (of61 _) rfl
theorem dX2_spreadAll_29 : decode cX2_spreadAll 29 = .ok (.iload_n 3, 1) := dec_0 oX2_spreadAll (of29 _) rfl
theorem dX2_spreadAll_30 : decode cX2_spreadAll 30 = .ok (.aload_n 1, 1) := dec_0 oX2_spreadAll (of43 _) rfl
theorem dX2_spreadAll_31 : decode cX2_spreadAll 31 = .ok (.iload 4, 2) := dec_1 oX2_spreadAll (of21 _) 4 rfl rfl
theorem dX2_spreadAll_33 : decode cX2_spreadAll 33 = .ok (.iaload, 1) := dec_0 oX2_spreadAll (of46 _) rfl
theorem dX2_spreadAll_34 : decode cX2_spreadAll 34 = .ok (.invokestatic 34, 3) := dec_2 oX2_spreadAll (of184 _) 0 34 rfl rfl
theorem dX2_spreadAll_37 : decode cX2_spreadAll 37 = .ok (.istore_n 3, 1) := dec_0 oX2_spreadAll (of62 _) rfl
theorem dX2_spreadAll_38 : decode cX2_spreadAll 38 = .ok (.iinc 4 1, 3) := dec_ii oX2_spreadAll (of132 _) 4 1 rfl (sg8p rfl) rfl
theorem dX2_spreadAll_41 : decode cX2_spreadAll 41 = .ok (.goto (-30), 3) := dec_s2 oX2_spreadAll (of167 _) 255 226 rfl (sg16n (k := 30) rfl) rfl
theorem dX2_spreadAll_44 : decode cX2_spreadAll 44 = .ok (.iload_n 3, 1) := dec_0 oX2_spreadAll (of29 _) rfl
theorem dX2_spreadAll_45 : decode cX2_spreadAll 45 = .ok (.iload_n 2, 1) := dec_0 oX2_spreadAll (of28 _) rfl
theorem dX2_spreadAll_46 : decode cX2_spreadAll 46 = .ok (.isub, 1) := dec_0 oX2_spreadAll (of100 _) rfl
theorem dX2_spreadAll_47 : decode cX2_spreadAll 47 = .ok (.istore 4, 2) := dec_1 oX2_spreadAll (of54 _) 4 rfl rfl
theorem dX2_spreadAll_49 : decode cX2_spreadAll 49 = .ok (.iconst 0, 1) := dec_0 oX2_spreadAll (of3 _) rfl
theorem dX2_spreadAll_50 : decode cX2_spreadAll 50 = .ok (.istore 5, 2) := dec_1 oX2_spreadAll (of54 _) 5 rfl rfl
theorem dX2_spreadAll_52 : decode cX2_spreadAll 52 = .ok (.iload 5, 2) := dec_1 oX2_spreadAll (of21 _) 5 rfl rfl
theorem dX2_spreadAll_54 : decode cX2_spreadAll 54 = .ok (.aload_n 0, 1) := dec_0 oX2_spreadAll (of42 _) rfl
theorem dX2_spreadAll_55 : decode cX2_spreadAll 55 = .ok (.getfield 24, 3) := dec_2 oX2_spreadAll (of180 _) 0 24 rfl rfl
theorem dX2_spreadAll_58 : decode cX2_spreadAll 58 = .ok (.if_icmp .ge 35, 3) := dec_s2 oX2_spreadAll (of162 _) 0 35 rfl (sg16p rfl) rfl
theorem dX2_spreadAll_61 : decode cX2_spreadAll 61 = .ok (.aload_n 1, 1) := dec_0 oX2_spreadAll (of43 _) rfl
theorem dX2_spreadAll_62 : decode cX2_spreadAll 62 = .ok (.iload 5, 2) := dec_1 oX2_spreadAll (of21 _) 5 rfl rfl
theorem dX2_spreadAll_64 : decode cX2_spreadAll 64 = .ok (.iload 4, 2) := dec_1 oX2_spreadAll (of21 _) 4 rfl rfl
theorem dX2_spreadAll_66 : decode cX2_spreadAll 66 = .ok (.ifCond .ne 7, 3) := dec_s2 oX2_spreadAll (of154 _) 0 7 rfl (sg16p rfl) rfl
theorem dX2_spreadAll_69 : decode cX2_spreadAll 69 = .ok (.iconst 0, 1) := dec_0 oX2_spreadAll (of3 _) rfl
theorem dX2_spreadAll_70 : decode cX2_spreadAll 70 = .ok (.goto 16, 3) := dec_s2 oX2_spreadAll (of167 _) 0 16 rfl (sg16p rfl) rfl
theorem dX2_spreadAll_73 : decode cX2_spreadAll 73 = .ok (.sipush 1000, 3) := dec_s2 oX2_spreadAll (of17 _) 3 232 rfl (sg16p rfl) rfl
theorem dX2_spreadAll_76 : decode cX2_spreadAll 76 = .ok (.aload_n 1, 1) := dec_0 oX2_spreadAll (of43 _) rfl
theorem dX2_spreadAll_77 : decode cX2_spreadAll 77 = .ok (.iload 5, 2) := dec_1 oX2_spreadAll (of21 _) 5 rfl rfl
theorem dX2_spreadAll_79 : decode cX2_spreadAll 79 = .ok (.iaload, 1) := dec_0 oX2_spreadAll (of46 _) rfl
theorem dX2_spreadAll_80 : decode cX2_spreadAll 80 = .ok (.iload_n 2, 1) := dec_0 oX2_spreadAll (of28 _) rfl
theorem dX2_spreadAll_81 : decode cX2_spreadAll 81 = .ok (.isub, 1) := dec_0 oX2_spreadAll (of100 _) rfl
theorem dX2_spreadAll_82 : decode cX2_spreadAll 82 = .ok (.imul, 1) := dec_0 oX2_spreadAll (of104 _) rfl
theorem dX2_spreadAll_83 : decode cX2_spreadAll 83 = .ok (.iload 4, 2) := dec_1 oX2_spreadAll (of21 _) 4 rfl rfl
theorem dX2_spreadAll_85 : decode cX2_spreadAll 85 = .ok (.idiv, 1) := dec_0 oX2_spreadAll (of108 _) rfl
theorem dX2_spreadAll_86 : decode cX2_spreadAll 86 = .ok (.iastore, 1) := dec_0 oX2_spreadAll (of79 _) rfl
theorem dX2_spreadAll_87 : decode cX2_spreadAll 87 = .ok (.iinc 5 1, 3) := dec_ii oX2_spreadAll (of132 _) 5 1 rfl (sg8p rfl) rfl
theorem dX2_spreadAll_90 : decode cX2_spreadAll 90 = .ok (.goto (-38), 3) := dec_s2 oX2_spreadAll (of167 _) 255 218 rfl (sg16n (k := 38) rfl) rfl
theorem dX2_spreadAll_93 : decode cX2_spreadAll 93 = .ok (.return_, 1) := dec_0 oX2_spreadAll (of177 _) rfl
theorem dX2_costOf_0 : decode cX2_costOf 0 = .ok (.iload_n 1, 1) := dec_0 oX2_costOf (of27 _) rfl
theorem dX2_costOf_1 : decode cX2_costOf 1 = .ok (.iload_n 2, 1) := dec_0 oX2_costOf (of28 _) rfl
theorem dX2_costOf_2 : decode cX2_costOf 2 = .ok (.isub, 1) := dec_0 oX2_costOf (of100 _) rfl
theorem dX2_costOf_3 : decode cX2_costOf 3 = .ok (.istore_n 3, 1) := dec_0 oX2_costOf (of62 _) rfl
theorem dX2_costOf_4 : decode cX2_costOf 4 = .ok (.aload_n 0, 1) := dec_0 oX2_costOf (of42 _) rfl
theorem dX2_costOf_5 : decode cX2_costOf 5 = .ok (.getfield 42, 3) := dec_2 oX2_costOf (of180 _) 0 42 rfl rfl
theorem dX2_costOf_8 : decode cX2_costOf 8 = .ok (.ifCond .eq 7, 3) := dec_s2 oX2_costOf (of153 _) 0 7 rfl (sg16p rfl) rfl
theorem dX2_costOf_11 : decode cX2_costOf 11 = .ok (.iload_n 3, 1) := dec_0 oX2_costOf (of29 _) rfl
theorem dX2_costOf_12 : decode cX2_costOf 12 = .ok (.iload_n 3, 1) := dec_0 oX2_costOf (of29 _) rfl
theorem dX2_costOf_13 : decode cX2_costOf 13 = .ok (.imul, 1) := dec_0 oX2_costOf (of104 _) rfl
theorem dX2_costOf_14 : decode cX2_costOf 14 = .ok (.ireturn, 1) := dec_0 oX2_costOf (of172 _) rfl
theorem dX2_costOf_15 : decode cX2_costOf 15 = .ok (.iload_n 3, 1) := dec_0 oX2_costOf (of29 _) rfl
theorem dX2_costOf_16 : decode cX2_costOf 16 = .ok (.ifCond .ge 8, 3) := dec_s2 oX2_costOf (of156 _) 0 8 rfl (sg16p rfl) rfl
theorem dX2_costOf_19 : decode cX2_costOf 19 = .ok (.iload_n 3, 1) := dec_0 oX2_costOf (of29 _) rfl
theorem dX2_costOf_20 : decode cX2_costOf 20 = .ok (.ineg, 1) := dec_0 oX2_costOf (of116 _) rfl
theorem dX2_costOf_21 : decode cX2_costOf 21 = .ok (.goto 4, 3) := dec_s2 oX2_costOf (of167 _) 0 4 rfl (sg16p rfl) rfl
theorem dX2_costOf_24 : decode cX2_costOf 24 = .ok (.iload_n 3, 1) := dec_0 oX2_costOf (of29 _) rfl
theorem dX2_costOf_25 : decode cX2_costOf 25 = .ok (.ireturn, 1) := dec_0 oX2_costOf (of172 _) rfl
theorem dX2_endsBound_0 : decode cX2_endsBound 0 = .ok (.aload_n 0, 1) := dec_0 oX2_endsBound (of42 _) rfl
theorem dX2_endsBound_1 : decode cX2_endsBound 1 = .ok (.getfield 24, 3) := dec_2 oX2_endsBound (of180 _) 0 24 rfl rfl
theorem dX2_endsBound_4 : decode cX2_endsBound 4 = .ok (.iconst 1, 1) := dec_0 oX2_endsBound (of4 _) rfl
theorem dX2_endsBound_5 : decode cX2_endsBound 5 = .ok (.isub, 1) := dec_0 oX2_endsBound (of100 _) rfl
theorem dX2_endsBound_6 : decode cX2_endsBound 6 = .ok (.istore_n 1, 1) := dec_0 oX2_endsBound (of60 _) rfl
theorem dX2_endsBound_7 : decode cX2_endsBound 7 = .ok (.aload_n 0, 1) := dec_0 oX2_endsBound (of42 _) rfl
theorem dX2_endsBound_8 : decode cX2_endsBound 8 = .ok (.aload_n 0, 1) := dec_0 oX2_endsBound (of42 _) rfl
theorem dX2_endsBound_9 : decode cX2_endsBound 9 = .ok (.getfield 9, 3) := dec_2 oX2_endsBound (of180 _) 0 9 rfl rfl
theorem dX2_endsBound_12 : decode cX2_endsBound 12 = .ok (.iconst 0, 1) := dec_0 oX2_endsBound (of3 _) rfl
theorem dX2_endsBound_13 : decode cX2_endsBound 13 = .ok (.iaload, 1) := dec_0 oX2_endsBound (of46 _) rfl
theorem dX2_endsBound_14 : decode cX2_endsBound 14 = .ok (.aload_n 0, 1) := dec_0 oX2_endsBound (of42 _) rfl
theorem dX2_endsBound_15 : decode cX2_endsBound 15 = .ok (.getfield 15, 3) := dec_2 oX2_endsBound (of180 _) 0 15 rfl rfl
theorem dX2_endsBound_18 : decode cX2_endsBound 18 = .ok (.iconst 0, 1) := dec_0 oX2_endsBound (of3 _) rfl
theorem dX2_endsBound_19 : decode cX2_endsBound 19 = .ok (.iaload, 1) := dec_0 oX2_endsBound (of46 _) rfl
theorem dX2_endsBound_20 : decode cX2_endsBound 20 = .ok (.invokevirtual 65, 3) := dec_2 oX2_endsBound (of182 _) 0 65 rfl rfl
theorem dX2_endsBound_23 : decode cX2_endsBound 23 = .ok (.aload_n 0, 1) := dec_0 oX2_endsBound (of42 _) rfl
theorem dX2_endsBound_24 : decode cX2_endsBound 24 = .ok (.aload_n 0, 1) := dec_0 oX2_endsBound (of42 _) rfl
theorem dX2_endsBound_25 : decode cX2_endsBound 25 = .ok (.getfield 9, 3) := dec_2 oX2_endsBound (of180 _) 0 9 rfl rfl
theorem dX2_endsBound_28 : decode cX2_endsBound 28 = .ok (.iload_n 1, 1) := dec_0 oX2_endsBound (of27 _) rfl
theorem dX2_endsBound_29 : decode cX2_endsBound 29 = .ok (.iaload, 1) := dec_0 oX2_endsBound (of46 _) rfl
theorem dX2_endsBound_30 : decode cX2_endsBound 30 = .ok (.aload_n 0, 1) := dec_0 oX2_endsBound (of42 _) rfl
theorem dX2_endsBound_31 : decode cX2_endsBound 31 = .ok (.getfield 15, 3) := dec_2 oX2_endsBound (of180 _) 0 15 rfl rfl
theorem dX2_endsBound_34 : decode cX2_endsBound 34 = .ok (.iload_n 1, 1) := dec_0 oX2_endsBound (of27 _) rfl
theorem dX2_endsBound_35 : decode cX2_endsBound 35 = .ok (.iaload, 1) := dec_0 oX2_endsBound (of46 _) rfl
theorem dX2_endsBound_36 : decode cX2_endsBound 36 = .ok (.invokevirtual 65, 3) := dec_2 oX2_endsBound (of182 _) 0 65 rfl rfl
theorem dX2_endsBound_39 : decode cX2_endsBound 39 = .ok (.iadd, 1) := dec_0 oX2_endsBound (of96 _) rfl
theorem dX2_endsBound_40 : decode cX2_endsBound 40 = .ok (.ireturn, 1) := dec_0 oX2_endsBound (of172 _) rfl
theorem dX2_overBound_0 : decode cX2_overBound 0 = .ok (.aload_n 0, 1) := dec_0 oX2_overBound (of42 _) rfl
theorem dX2_overBound_1 : decode cX2_overBound 1 = .ok (.aload_n 0, 1) := dec_0 oX2_overBound (of42 _) rfl
theorem dX2_overBound_2 : decode cX2_overBound 2 = .ok (.getfield 15, 3) := dec_2 oX2_overBound (of180 _) 0 15 rfl rfl
theorem dX2_overBound_5 : decode cX2_overBound 5 = .ok (.aload_n 0, 1) := dec_0 oX2_overBound (of42 _) rfl
theorem dX2_overBound_6 : decode cX2_overBound 6 = .ok (.getfield 9, 3) := dec_2 oX2_overBound (of180 _) 0 9 rfl rfl
theorem dX2_overBound_9 : decode cX2_overBound 9 = .ok (.invokevirtual 68, 3) := dec_2 oX2_overBound (of182 _) 0 68 rfl rfl
theorem dX2_overBound_12 : decode cX2_overBound 12 = .ok (.ireturn, 1) := dec_0 oX2_overBound (of172 _) rfl
theorem dX2_backBound_0 : decode cX2_backBound 0 = .ok (.aload_n 0, 1) := dec_0 oX2_backBound (of42 _) rfl
theorem dX2_backBound_1 : decode cX2_backBound 1 = .ok (.aload_n 0, 1) := dec_0 oX2_backBound (of42 _) rfl
theorem dX2_backBound_2 : decode cX2_backBound 2 = .ok (.getfield 9, 3) := dec_2 oX2_backBound (of180 _) 0 9 rfl rfl
theorem dX2_backBound_5 : decode cX2_backBound 5 = .ok (.aload_n 0, 1) := dec_0 oX2_backBound (of42 _) rfl
theorem dX2_backBound_6 : decode cX2_backBound 6 = .ok (.getfield 15, 3) := dec_2 oX2_backBound (of180 _) 0 15 rfl rfl
theorem dX2_backBound_9 : decode cX2_backBound 9 = .ok (.invokevirtual 68, 3) := dec_2 oX2_backBound (of182 _) 0 68 rfl rfl
theorem dX2_backBound_12 : decode cX2_backBound 12 = .ok (.ireturn, 1) := dec_0 oX2_backBound (of172 _) rfl
theorem dX2_envelopeBound_0 : decode cX2_envelopeBound 0 = .ok (.iconst 0, 1) := dec_0 oX2_envelopeBound (of3 _) rfl
theorem dX2_envelopeBound_1 : decode cX2_envelopeBound 1 = .ok (.istore_n 3, 1) := dec_0 oX2_envelopeBound (of62 _) rfl
theorem dX2_envelopeBound_2 : decode cX2_envelopeBound 2 = .ok (.iconst 0, 1) := dec_0 oX2_envelopeBound (of3 _) rfl
theorem dX2_envelopeBound_3 : decode cX2_envelopeBound 3 = .ok (.istore 4, 2) := dec_1 oX2_envelopeBound (of54 _) 4 rfl rfl
theorem dX2_envelopeBound_5 : decode cX2_envelopeBound 5 = .ok (.iload 4, 2) := dec_1 oX2_envelopeBound (of21 _) 4 rfl rfl
theorem dX2_envelopeBound_7 : decode cX2_envelopeBound 7 = .ok (.aload_n 0, 1) := dec_0 oX2_envelopeBound (of42 _) rfl
theorem dX2_envelopeBound_8 : decode cX2_envelopeBound 8 = .ok (.getfield 24, 3) := dec_2 oX2_envelopeBound (of180 _) 0 24 rfl rfl
theorem dX2_envelopeBound_11 : decode cX2_envelopeBound 11 = .ok (.if_icmp .ge 30, 3) := dec_s2 oX2_envelopeBound (of162 _) 0 30 rfl (sg16p rfl) rfl
theorem dX2_envelopeBound_14 : decode cX2_envelopeBound 14 = .ok (.iload 4, 2) := dec_1 oX2_envelopeBound (of21 _) 4 rfl rfl
theorem dX2_envelopeBound_16 : decode cX2_envelopeBound 16 = .ok (.aload_n 1, 1) := dec_0 oX2_envelopeBound (of43 _) rfl
theorem dX2_envelopeBound_17 : decode cX2_envelopeBound 17 = .ok (.arraylength, 1) := dec_0 oX2_envelopeBound (of190 _) rfl
theorem dX2_envelopeBound_18 : decode cX2_envelopeBound 18 = .ok (.if_icmp .ge 23, 3) := dec_s2 oX2_envelopeBound (of162 _) 0 23 rfl (sg16p rfl) rfl
theorem dX2_envelopeBound_21 : decode cX2_envelopeBound 21 = .ok (.iload_n 3, 1) := dec_0 oX2_envelopeBound (of29 _) rfl
theorem dX2_envelopeBound_22 : decode cX2_envelopeBound 22 = .ok (.aload_n 0, 1) := dec_0 oX2_envelopeBound (of42 _) rfl
theorem dX2_envelopeBound_23 : decode cX2_envelopeBound 23 = .ok (.aload_n 1, 1) := dec_0 oX2_envelopeBound (of43 _) rfl
theorem dX2_envelopeBound_24 : decode cX2_envelopeBound 24 = .ok (.iload 4, 2) := dec_1 oX2_envelopeBound (of21 _) 4 rfl rfl
theorem dX2_envelopeBound_26 : decode cX2_envelopeBound 26 = .ok (.iaload, 1) := dec_0 oX2_envelopeBound (of46 _) rfl
theorem dX2_envelopeBound_27 : decode cX2_envelopeBound 27 = .ok (.aload_n 2, 1) := dec_0 oX2_envelopeBound (of44 _) rfl
theorem dX2_envelopeBound_28 : decode cX2_envelopeBound 28 = .ok (.iload 4, 2) := dec_1 oX2_envelopeBound (of21 _) 4 rfl rfl
theorem dX2_envelopeBound_30 : decode cX2_envelopeBound 30 = .ok (.invokevirtual 72, 3) := dec_2 oX2_envelopeBound (of182 _) 0 72 rfl rfl
theorem dX2_envelopeBound_33 : decode cX2_envelopeBound 33 = .ok (.iadd, 1) := dec_0 oX2_envelopeBound (of96 _) rfl
theorem dX2_envelopeBound_34 : decode cX2_envelopeBound 34 = .ok (.istore_n 3, 1) := dec_0 oX2_envelopeBound (of62 _) rfl
theorem dX2_envelopeBound_35 : decode cX2_envelopeBound 35 = .ok (.iinc 4 1, 3) := dec_ii oX2_envelopeBound (of132 _) 4 1 rfl (sg8p rfl) rfl
theorem dX2_envelopeBound_38 : decode cX2_envelopeBound 38 = .ok (.goto (-33), 3) := dec_s2 oX2_envelopeBound (of167 _) 255 223 rfl (sg16n (k := 33) rfl) rfl
theorem dX2_envelopeBound_41 : decode cX2_envelopeBound 41 = .ok (.iload_n 3, 1) := dec_0 oX2_envelopeBound (of29 _) rfl
theorem dX2_envelopeBound_42 : decode cX2_envelopeBound 42 = .ok (.ireturn, 1) := dec_0 oX2_envelopeBound (of172 _) rfl
theorem dX2_outsideCost_0 : decode cX2_outsideCost 0 = .ok (.iconst 0, 1) := dec_0 oX2_outsideCost (of3 _) rfl
theorem dX2_outsideCost_1 : decode cX2_outsideCost 1 = .ok (.iload_n 3, 1) := dec_0 oX2_outsideCost (of29 _) rfl
theorem dX2_outsideCost_2 : decode cX2_outsideCost 2 = .ok (.aload_n 0, 1) := dec_0 oX2_outsideCost (of42 _) rfl
theorem dX2_outsideCost_3 : decode cX2_outsideCost 3 = .ok (.getfield 37, 3) := dec_2 oX2_outsideCost (of180 _) 0 37 rfl rfl
theorem dX2_outsideCost_6 : decode cX2_outsideCost 6 = .ok (.isub, 1) := dec_0 oX2_outsideCost (of100 _) rfl
theorem dX2_outsideCost_7 : decode cX2_outsideCost 7 = .ok (.invokestatic 34, 3) := dec_2 oX2_outsideCost (of184 _) 0 34 rfl rfl
theorem dX2_outsideCost_10 : decode cX2_outsideCost 10 = .ok (.istore 4, 2) := dec_1 oX2_outsideCost (of54 _) 4 rfl rfl
theorem dX2_outsideCost_12 : decode cX2_outsideCost 12 = .ok (.aload_n 0, 1) := dec_0 oX2_outsideCost (of42 _) rfl
theorem dX2_outsideCost_13 : decode cX2_outsideCost 13 = .ok (.getfield 24, 3) := dec_2 oX2_outsideCost (of180 _) 0 24 rfl rfl
theorem dX2_outsideCost_16 : decode cX2_outsideCost 16 = .ok (.iconst 1, 1) := dec_0 oX2_outsideCost (of4 _) rfl
theorem dX2_outsideCost_17 : decode cX2_outsideCost 17 = .ok (.isub, 1) := dec_0 oX2_outsideCost (of100 _) rfl
theorem dX2_outsideCost_18 : decode cX2_outsideCost 18 = .ok (.iload_n 3, 1) := dec_0 oX2_outsideCost (of29 _) rfl
theorem dX2_outsideCost_19 : decode cX2_outsideCost 19 = .ok (.aload_n 0, 1) := dec_0 oX2_outsideCost (of42 _) rfl
theorem dX2_outsideCost_20 : decode cX2_outsideCost 20 = .ok (.getfield 37, 3) := dec_2 oX2_outsideCost (of180 _) 0 37 rfl rfl
theorem dX2_outsideCost_23 : decode cX2_outsideCost 23 = .ok (.iadd, 1) := dec_0 oX2_outsideCost (of96 _) rfl
theorem dX2_outsideCost_24 : decode cX2_outsideCost 24 = .ok (.invokestatic 28, 3) := dec_2 oX2_outsideCost (of184 _) 0 28 rfl rfl
theorem dX2_outsideCost_27 : decode cX2_outsideCost 27 = .ok (.istore 5, 2) := dec_1 oX2_outsideCost (of54 _) 5 rfl rfl
theorem dX2_outsideCost_29 : decode cX2_outsideCost 29 = .ok (.aload_n 2, 1) := dec_0 oX2_outsideCost (of44 _) rfl
theorem dX2_outsideCost_30 : decode cX2_outsideCost 30 = .ok (.iload 4, 2) := dec_1 oX2_outsideCost (of21 _) 4 rfl rfl
theorem dX2_outsideCost_32 : decode cX2_outsideCost 32 = .ok (.iaload, 1) := dec_0 oX2_outsideCost (of46 _) rfl
theorem dX2_outsideCost_33 : decode cX2_outsideCost 33 = .ok (.istore 6, 2) := dec_1 oX2_outsideCost (of54 _) 6 rfl rfl
theorem dX2_outsideCost_35 : decode cX2_outsideCost 35 = .ok (.iload 6, 2) := dec_1 oX2_outsideCost (of21 _) 6 rfl rfl
theorem dX2_outsideCost_37 : decode cX2_outsideCost 37 = .ok (.istore 7, 2) := dec_1 oX2_outsideCost (of54 _) 7 rfl rfl
theorem dX2_outsideCost_39 : decode cX2_outsideCost 39 = .ok (.iload 4, 2) := dec_1 oX2_outsideCost (of21 _) 4 rfl rfl
theorem dX2_outsideCost_41 : decode cX2_outsideCost 41 = .ok (.iconst 1, 1) := dec_0 oX2_outsideCost (of4 _) rfl
theorem dX2_outsideCost_42 : decode cX2_outsideCost 42 = .ok (.iadd, 1) := dec_0 oX2_outsideCost (of96 _) rfl
theorem dX2_outsideCost_43 : decode cX2_outsideCost 43 = .ok (.istore 8, 2) := dec_1 oX2_outsideCost (of54 _) 8 rfl rfl
theorem dX2_outsideCost_45 : decode cX2_outsideCost 45 = .ok (.iload 8, 2) := dec_1 oX2_outsideCost (of21 _) 8 rfl rfl
theorem dX2_outsideCost_47 : decode cX2_outsideCost 47 = .ok (.iload 5, 2) := dec_1 oX2_outsideCost (of21 _) 5 rfl rfl
theorem dX2_outsideCost_49 : decode cX2_outsideCost 49 = .ok (.if_icmp .gt 40, 3) := dec_s2 oX2_outsideCost (of163 _) 0 40 rfl (sg16p rfl) rfl
theorem dX2_outsideCost_52 : decode cX2_outsideCost 52 = .ok (.aload_n 2, 1) := dec_0 oX2_outsideCost (of44 _) rfl
theorem dX2_outsideCost_53 : decode cX2_outsideCost 53 = .ok (.iload 8, 2) := dec_1 oX2_outsideCost (of21 _) 8 rfl rfl
theorem dX2_outsideCost_55 : decode cX2_outsideCost 55 = .ok (.iaload, 1) := dec_0 oX2_outsideCost (of46 _) rfl
theorem dX2_outsideCost_56 : decode cX2_outsideCost 56 = .ok (.istore 9, 2) := dec_1 oX2_outsideCost (of54 _) 9 rfl rfl
theorem dX2_outsideCost_58 : decode cX2_outsideCost 58 = .ok (.iload 9, 2) := dec_1 oX2_outsideCost (of21 _) 9 rfl rfl
theorem dX2_outsideCost_60 : decode cX2_outsideCost 60 = .ok (.iload 6, 2) := dec_1 oX2_outsideCost (of21 _) 6 rfl rfl
theorem dX2_outsideCost_62 : decode cX2_outsideCost 62 = .ok (.if_icmp .ge 10, 3) := dec_s2 oX2_outsideCost (of162 _) 0 10 rfl (sg16p rfl) rfl
theorem dX2_outsideCost_65 : decode cX2_outsideCost 65 = .ok (.iload 9, 2) := dec_1 oX2_outsideCost (of21 _) 9 rfl rfl
theorem dX2_outsideCost_67 : decode cX2_outsideCost 67 = .ok (.istore 6, 2) := dec_1 oX2_outsideCost (of54 _) 6 rfl rfl
theorem dX2_outsideCost_69 : decode cX2_outsideCost 69 = .ok (.goto 14, 3) := dec_s2 oX2_outsideCost (of167 _) 0 14 rfl (sg16p rfl) rfl
theorem dX2_outsideCost_72 : decode cX2_outsideCost 72 = .ok (.iload 9, 2) := dec_1 oX2_outsideCost (of21 _) 9 rfl rfl
theorem dX2_outsideCost_74 : decode cX2_outsideCost 74 = .ok (.iload 7, 2) := dec_1 oX2_outsideCost (of21 _) 7 rfl rfl
theorem dX2_outsideCost_76 : decode cX2_outsideCost 76 = .ok (.if_icmp .le 7, 3) := dec_s2 oX2_outsideCost (of164 _) 0 7 rfl (sg16p rfl) rfl
theorem dX2_outsideCost_79 : decode cX2_outsideCost 79 = .ok (.iload 9, 2) := dec_1 oX2_outsideCost (of21 _) 9 rfl rfl
theorem dX2_outsideCost_81 : decode cX2_outsideCost 81 = .ok (.istore 7, 2) := dec_1 oX2_outsideCost (of54 _) 7 rfl rfl
theorem dX2_outsideCost_83 : decode cX2_outsideCost 83 = .ok (.iinc 8 1, 3) := dec_ii oX2_outsideCost (of132 _) 8 1 rfl (sg8p rfl) rfl
theorem dX2_outsideCost_86 : decode cX2_outsideCost 86 = .ok (.goto (-41), 3) := dec_s2 oX2_outsideCost (of167 _) 255 215 rfl (sg16n (k := 41) rfl) rfl
theorem dX2_outsideCost_89 : decode cX2_outsideCost 89 = .ok (.iload_n 1, 1) := dec_0 oX2_outsideCost (of27 _) rfl
theorem dX2_outsideCost_90 : decode cX2_outsideCost 90 = .ok (.iload 7, 2) := dec_1 oX2_outsideCost (of21 _) 7 rfl rfl
theorem dX2_outsideCost_92 : decode cX2_outsideCost 92 = .ok (.if_icmp .le 11, 3) := dec_s2 oX2_outsideCost (of164 _) 0 11 rfl (sg16p rfl) rfl
theorem dX2_outsideCost_95 : decode cX2_outsideCost 95 = .ok (.aload_n 0, 1) := dec_0 oX2_outsideCost (of42 _) rfl
theorem dX2_outsideCost_96 : decode cX2_outsideCost 96 = .ok (.iload_n 1, 1) := dec_0 oX2_outsideCost (of27 _) rfl
theorem dX2_outsideCost_97 : decode cX2_outsideCost 97 = .ok (.iload 7, 2) := dec_1 oX2_outsideCost (of21 _) 7 rfl rfl
theorem dX2_outsideCost_99 : decode cX2_outsideCost 99 = .ok (.invokevirtual 65, 3) := dec_2 oX2_outsideCost (of182 _) 0 65 rfl rfl
theorem dX2_outsideCost_102 : decode cX2_outsideCost 102 = .ok (.ireturn, 1) := dec_0 oX2_outsideCost (of172 _) rfl
theorem dX2_outsideCost_103 : decode cX2_outsideCost 103 = .ok (.iload_n 1, 1) := dec_0 oX2_outsideCost (of27 _) rfl
theorem dX2_outsideCost_104 : decode cX2_outsideCost 104 = .ok (.iload 6, 2) := dec_1 oX2_outsideCost (of21 _) 6 rfl rfl
theorem dX2_outsideCost_106 : decode cX2_outsideCost 106 = .ok (.if_icmp .ge 13, 3) := dec_s2 oX2_outsideCost (of162 _) 0 13 rfl (sg16p rfl) rfl
theorem dX2_outsideCost_109 : decode cX2_outsideCost 109 = .ok (.aload_n 0, 1) := dec_0 oX2_outsideCost (of42 _) rfl
theorem dX2_outsideCost_110 : decode cX2_outsideCost 110 = .ok (.iload_n 1, 1) := dec_0 oX2_outsideCost (of27 _) rfl
theorem dX2_outsideCost_111 : decode cX2_outsideCost 111 = .ok (.iload 6, 2) := dec_1 oX2_outsideCost (of21 _) 6 rfl rfl
theorem dX2_outsideCost_113 : decode cX2_outsideCost 113 = .ok (.invokevirtual 65, 3) := dec_2 oX2_outsideCost (of182 _) 0 65 rfl rfl
theorem dX2_outsideCost_116 : decode cX2_outsideCost 116 = .ok (.goto 4, 3) := dec_s2 oX2_outsideCost (of167 _) 0 4 rfl (sg16p rfl) rfl
theorem dX2_outsideCost_119 : decode cX2_outsideCost 119 = .ok (.iconst 0, 1) := dec_0 oX2_outsideCost (of3 _) rfl
theorem dX2_outsideCost_120 : decode cX2_outsideCost 120 = .ok (.ireturn, 1) := dec_0 oX2_outsideCost (of172 _) rfl
theorem dX2_lookAt_0 : decode cX2_lookAt 0 = .ok (.aload_n 0, 1) := dec_0 oX2_lookAt (of42 _) rfl
theorem dX2_lookAt_1 : decode cX2_lookAt 1 = .ok (.iconst 0, 1) := dec_0 oX2_lookAt (of3 _) rfl
theorem dX2_lookAt_2 : decode cX2_lookAt 2 = .ok (.putfield 76, 3) := dec_2 oX2_lookAt (of181 _) 0 76 rfl rfl
theorem dX2_lookAt_5 : decode cX2_lookAt 5 = .ok (.aload_n 0, 1) := dec_0 oX2_lookAt (of42 _) rfl
theorem dX2_lookAt_6 : decode cX2_lookAt 6 = .ok (.bipush (-2), 2) := dec_s1 oX2_lookAt (of16 _) 254 rfl (sg8n (k := 2) rfl) rfl
theorem dX2_lookAt_8 : decode cX2_lookAt 8 = .ok (.putfield 79, 3) := dec_2 oX2_lookAt (of181 _) 0 79 rfl rfl
theorem dX2_lookAt_11 : decode cX2_lookAt 11 = .ok (.aload_n 0, 1) := dec_0 oX2_lookAt (of42 _) rfl
theorem dX2_lookAt_12 : decode cX2_lookAt 12 = .ok (.invokevirtual 82, 3) := dec_2 oX2_lookAt (of182 _) 0 82 rfl rfl
theorem dX2_lookAt_15 : decode cX2_lookAt 15 = .ok (.iload_n 1, 1) := dec_0 oX2_lookAt (of27 _) rfl
theorem dX2_lookAt_16 : decode cX2_lookAt 16 = .ok (.if_icmp .lt 5, 3) := dec_s2 oX2_lookAt (of161 _) 0 5 rfl (sg16p rfl) rfl
theorem dX2_lookAt_19 : decode cX2_lookAt 19 = .ok (.iconst 1, 1) := dec_0 oX2_lookAt (of4 _) rfl
theorem dX2_lookAt_20 : decode cX2_lookAt 20 = .ok (.ireturn, 1) := dec_0 oX2_lookAt (of172 _) rfl
theorem dX2_lookAt_21 : decode cX2_lookAt 21 = .ok (.aload_n 0, 1) := dec_0 oX2_lookAt (of42 _) rfl
theorem dX2_lookAt_22 : decode cX2_lookAt 22 = .ok (.aload_n 0, 1) := dec_0 oX2_lookAt (of42 _) rfl
theorem dX2_lookAt_23 : decode cX2_lookAt 23 = .ok (.getfield 15, 3) := dec_2 oX2_lookAt (of180 _) 0 15 rfl rfl
theorem dX2_lookAt_26 : decode cX2_lookAt 26 = .ok (.aload_n 0, 1) := dec_0 oX2_lookAt (of42 _) rfl
theorem dX2_lookAt_27 : decode cX2_lookAt 27 = .ok (.getfield 9, 3) := dec_2 oX2_lookAt (of180 _) 0 9 rfl rfl
theorem dX2_lookAt_30 : decode cX2_lookAt 30 = .ok (.invokevirtual 68, 3) := dec_2 oX2_lookAt (of182 _) 0 68 rfl rfl
theorem dX2_lookAt_33 : decode cX2_lookAt 33 = .ok (.iload_n 1, 1) := dec_0 oX2_lookAt (of27 _) rfl
theorem dX2_lookAt_34 : decode cX2_lookAt 34 = .ok (.if_icmp .lt 5, 3) := dec_s2 oX2_lookAt (of161 _) 0 5 rfl (sg16p rfl) rfl
theorem dX2_lookAt_37 : decode cX2_lookAt 37 = .ok (.iconst 2, 1) := dec_0 oX2_lookAt (of5 _) rfl
theorem dX2_lookAt_38 : decode cX2_lookAt 38 = .ok (.ireturn, 1) := dec_0 oX2_lookAt (of172 _) rfl
theorem dX2_lookAt_39 : decode cX2_lookAt 39 = .ok (.aload_n 0, 1) := dec_0 oX2_lookAt (of42 _) rfl
theorem dX2_lookAt_40 : decode cX2_lookAt 40 = .ok (.aload_n 0, 1) := dec_0 oX2_lookAt (of42 _) rfl
theorem dX2_lookAt_41 : decode cX2_lookAt 41 = .ok (.getfield 9, 3) := dec_2 oX2_lookAt (of180 _) 0 9 rfl rfl
theorem dX2_lookAt_44 : decode cX2_lookAt 44 = .ok (.aload_n 0, 1) := dec_0 oX2_lookAt (of42 _) rfl
theorem dX2_lookAt_45 : decode cX2_lookAt 45 = .ok (.getfield 15, 3) := dec_2 oX2_lookAt (of180 _) 0 15 rfl rfl
theorem dX2_lookAt_48 : decode cX2_lookAt 48 = .ok (.invokevirtual 68, 3) := dec_2 oX2_lookAt (of182 _) 0 68 rfl rfl
theorem dX2_lookAt_51 : decode cX2_lookAt 51 = .ok (.iload_n 1, 1) := dec_0 oX2_lookAt (of27 _) rfl
theorem dX2_lookAt_52 : decode cX2_lookAt 52 = .ok (.if_icmp .lt 5, 3) := dec_s2 oX2_lookAt (of161 _) 0 5 rfl (sg16p rfl) rfl
theorem dX2_lookAt_55 : decode cX2_lookAt 55 = .ok (.iconst 3, 1) := dec_0 oX2_lookAt (of6 _) rfl
theorem dX2_lookAt_56 : decode cX2_lookAt 56 = .ok (.ireturn, 1) := dec_0 oX2_lookAt (of172 _) rfl
theorem dX2_lookAt_57 : decode cX2_lookAt 57 = .ok (.aload_n 0, 1) := dec_0 oX2_lookAt (of42 _) rfl
theorem dX2_lookAt_58 : decode cX2_lookAt 58 = .ok (.iload_n 1, 1) := dec_0 oX2_lookAt (of27 _) rfl
theorem dX2_lookAt_59 : decode cX2_lookAt 59 = .ok (.invokevirtual 86, 3) := dec_2 oX2_lookAt (of182 _) 0 86 rfl rfl
theorem dX2_lookAt_62 : decode cX2_lookAt 62 = .ok (.aload_n 0, 1) := dec_0 oX2_lookAt (of42 _) rfl
theorem dX2_lookAt_63 : decode cX2_lookAt 63 = .ok (.getfield 79, 3) := dec_2 oX2_lookAt (of180 _) 0 79 rfl rfl
theorem dX2_lookAt_66 : decode cX2_lookAt 66 = .ok (.bipush (-2), 2) := dec_s1 oX2_lookAt (of16 _) 254 rfl (sg8n (k := 2) rfl) rfl
theorem dX2_lookAt_68 : decode cX2_lookAt 68 = .ok (.if_icmp .eq 5, 3) := dec_s2 oX2_lookAt (of159 _) 0 5 rfl (sg16p rfl) rfl
theorem dX2_lookAt_71 : decode cX2_lookAt 71 = .ok (.iconst 4, 1) := dec_0 oX2_lookAt (of7 _) rfl
theorem dX2_lookAt_72 : decode cX2_lookAt 72 = .ok (.ireturn, 1) := dec_0 oX2_lookAt (of172 _) rfl
theorem dX2_lookAt_73 : decode cX2_lookAt 73 = .ok (.aload_n 0, 1) := dec_0 oX2_lookAt (of42 _) rfl
theorem dX2_lookAt_74 : decode cX2_lookAt 74 = .ok (.invokevirtual 90, 3) := dec_2 oX2_lookAt (of182 _) 0 90 rfl rfl
theorem dX2_lookAt_77 : decode cX2_lookAt 77 = .ok (.iload_n 1, 1) := dec_0 oX2_lookAt (of27 _) rfl
theorem dX2_lookAt_78 : decode cX2_lookAt 78 = .ok (.if_icmp .lt 7, 3) := dec_s2 oX2_lookAt (of161 _) 0 7 rfl (sg16p rfl) rfl
theorem dX2_lookAt_81 : decode cX2_lookAt 81 = .ok (.iconst 5, 1) := dec_0 oX2_lookAt (of8 _) rfl
theorem dX2_lookAt_82 : decode cX2_lookAt 82 = .ok (.goto 4, 3) := dec_s2 oX2_lookAt (of167 _) 0 4 rfl (sg16p rfl) rfl
theorem dX2_lookAt_85 : decode cX2_lookAt 85 = .ok (.iconst 0, 1) := dec_0 oX2_lookAt (of3 _) rfl
theorem dX2_lookAt_86 : decode cX2_lookAt 86 = .ok (.ireturn, 1) := dec_0 oX2_lookAt (of172 _) rfl
theorem dX2_isLess_0 : decode cX2_isLess 0 = .ok (.aload_n 0, 1) := dec_0 oX2_isLess (of42 _) rfl
theorem dX2_isLess_1 : decode cX2_isLess 1 = .ok (.invokevirtual 82, 3) := dec_2 oX2_isLess (of182 _) 0 82 rfl rfl
theorem dX2_isLess_4 : decode cX2_isLess 4 = .ok (.iload_n 1, 1) := dec_0 oX2_isLess (of27 _) rfl
theorem dX2_isLess_5 : decode cX2_isLess 5 = .ok (.if_icmp .lt 5, 3) := dec_s2 oX2_isLess (of161 _) 0 5 rfl (sg16p rfl) rfl
theorem dX2_isLess_8 : decode cX2_isLess 8 = .ok (.iconst 0, 1) := dec_0 oX2_isLess (of3 _) rfl
theorem dX2_isLess_9 : decode cX2_isLess 9 = .ok (.ireturn, 1) := dec_0 oX2_isLess (of172 _) rfl
theorem dX2_isLess_10 : decode cX2_isLess 10 = .ok (.aload_n 0, 1) := dec_0 oX2_isLess (of42 _) rfl
theorem dX2_isLess_11 : decode cX2_isLess 11 = .ok (.iload_n 1, 1) := dec_0 oX2_isLess (of27 _) rfl
theorem dX2_isLess_12 : decode cX2_isLess 12 = .ok (.invokevirtual 86, 3) := dec_2 oX2_isLess (of182 _) 0 86 rfl rfl
theorem dX2_isLess_15 : decode cX2_isLess 15 = .ok (.aload_n 0, 1) := dec_0 oX2_isLess (of42 _) rfl
theorem dX2_isLess_16 : decode cX2_isLess 16 = .ok (.getfield 79, 3) := dec_2 oX2_isLess (of180 _) 0 79 rfl rfl
theorem dX2_isLess_19 : decode cX2_isLess 19 = .ok (.bipush (-2), 2) := dec_s1 oX2_isLess (of16 _) 254 rfl (sg8n (k := 2) rfl) rfl
theorem dX2_isLess_21 : decode cX2_isLess 21 = .ok (.if_icmp .ne 15, 3) := dec_s2 oX2_isLess (of160 _) 0 15 rfl (sg16p rfl) rfl
theorem dX2_isLess_24 : decode cX2_isLess 24 = .ok (.aload_n 0, 1) := dec_0 oX2_isLess (of42 _) rfl
theorem dX2_isLess_25 : decode cX2_isLess 25 = .ok (.invokevirtual 90, 3) := dec_2 oX2_isLess (of182 _) 0 90 rfl rfl
theorem dX2_isLess_28 : decode cX2_isLess 28 = .ok (.iload_n 1, 1) := dec_0 oX2_isLess (of27 _) rfl
theorem dX2_isLess_29 : decode cX2_isLess 29 = .ok (.if_icmp .ge 7, 3) := dec_s2 oX2_isLess (of162 _) 0 7 rfl (sg16p rfl) rfl
theorem dX2_isLess_32 : decode cX2_isLess 32 = .ok (.iconst 1, 1) := dec_0 oX2_isLess (of4 _) rfl
theorem dX2_isLess_33 : decode cX2_isLess 33 = .ok (.goto 4, 3) := dec_s2 oX2_isLess (of167 _) 0 4 rfl (sg16p rfl) rfl
theorem dX2_isLess_36 : decode cX2_isLess 36 = .ok (.iconst 0, 1) := dec_0 oX2_isLess (of3 _) rfl
theorem dX2_isLess_37 : decode cX2_isLess 37 = .ok (.ireturn, 1) := dec_0 oX2_isLess (of172 _) rfl
theorem dX2_wholeDistance_0 : decode cX2_wholeDistance 0 = .ok (.aload_n 0, 1) := dec_0 oX2_wholeDistance (of42 _) rfl
theorem dX2_wholeDistance_1 : decode cX2_wholeDistance 1 = .ok (.ldc 93, 2) := dec_1 oX2_wholeDistance (of18 _) 93 rfl rfl
theorem dX2_wholeDistance_3 : decode cX2_wholeDistance 3 = .ok (.invokevirtual 86, 3) := dec_2 oX2_wholeDistance (of182 _) 0 86 rfl rfl
theorem dX2_wholeDistance_6 : decode cX2_wholeDistance 6 = .ok (.aload_n 0, 1) := dec_0 oX2_wholeDistance (of42 _) rfl
theorem dX2_wholeDistance_7 : decode cX2_wholeDistance 7 = .ok (.invokevirtual 90, 3) := dec_2 oX2_wholeDistance (of182 _) 0 90 rfl rfl
theorem dX2_wholeDistance_10 : decode cX2_wholeDistance 10 = .ok (.ireturn, 1) := dec_0 oX2_wholeDistance (of172 _) rfl
theorem dX2_laidDistance_0 : decode cX2_laidDistance 0 = .ok (.aload_n 0, 1) := dec_0 oX2_laidDistance (of42 _) rfl
theorem dX2_laidDistance_1 : decode cX2_laidDistance 1 = .ok (.getfield 18, 3) := dec_2 oX2_laidDistance (of180 _) 0 18 rfl rfl
theorem dX2_laidDistance_4 : decode cX2_laidDistance 4 = .ok (.aload_n 0, 1) := dec_0 oX2_laidDistance (of42 _) rfl
theorem dX2_laidDistance_5 : decode cX2_laidDistance 5 = .ok (.getfield 24, 3) := dec_2 oX2_laidDistance (of180 _) 0 24 rfl rfl
theorem dX2_laidDistance_8 : decode cX2_laidDistance 8 = .ok (.iconst 1, 1) := dec_0 oX2_laidDistance (of4 _) rfl
theorem dX2_laidDistance_9 : decode cX2_laidDistance 9 = .ok (.isub, 1) := dec_0 oX2_laidDistance (of100 _) rfl
theorem dX2_laidDistance_10 : decode cX2_laidDistance 10 = .ok (.bipush 16, 2) := dec_s1 oX2_laidDistance (of16 _) 16 rfl (sg8p rfl) rfl
theorem dX2_laidDistance_12 : decode cX2_laidDistance 12 = .ok (.imul, 1) := dec_0 oX2_laidDistance (of104 _) rfl
theorem dX2_laidDistance_13 : decode cX2_laidDistance 13 = .ok (.aload_n 0, 1) := dec_0 oX2_laidDistance (of42 _) rfl
theorem dX2_laidDistance_14 : decode cX2_laidDistance 14 = .ok (.getfield 24, 3) := dec_2 oX2_laidDistance (of180 _) 0 24 rfl rfl
theorem dX2_laidDistance_17 : decode cX2_laidDistance 17 = .ok (.iadd, 1) := dec_0 oX2_laidDistance (of96 _) rfl
theorem dX2_laidDistance_18 : decode cX2_laidDistance 18 = .ok (.iconst 1, 1) := dec_0 oX2_laidDistance (of4 _) rfl
theorem dX2_laidDistance_19 : decode cX2_laidDistance 19 = .ok (.isub, 1) := dec_0 oX2_laidDistance (of100 _) rfl
theorem dX2_laidDistance_20 : decode cX2_laidDistance 20 = .ok (.iaload, 1) := dec_0 oX2_laidDistance (of46 _) rfl
theorem dX2_laidDistance_21 : decode cX2_laidDistance 21 = .ok (.ireturn, 1) := dec_0 oX2_laidDistance (of172 _) rfl
theorem dX2_layTable_0 : decode cX2_layTable 0 = .ok (.aload_n 0, 1) := dec_0 oX2_layTable (of42 _) rfl
theorem dX2_layTable_1 : decode cX2_layTable 1 = .ok (.iconst 0, 1) := dec_0 oX2_layTable (of3 _) rfl
theorem dX2_layTable_2 : decode cX2_layTable 2 = .ok (.putfield 76, 3) := dec_2 oX2_layTable (of181 _) 0 76 rfl rfl
theorem dX2_layTable_5 : decode cX2_layTable 5 = .ok (.aload_n 0, 1) := dec_0 oX2_layTable (of42 _) rfl
theorem dX2_layTable_6 : decode cX2_layTable 6 = .ok (.bipush (-2), 2) := dec_s1 oX2_layTable (of16 _) 254 rfl (sg8n (k := 2) rfl) rfl
theorem dX2_layTable_8 : decode cX2_layTable 8 = .ok (.putfield 79, 3) := dec_2 oX2_layTable (of181 _) 0 79 rfl rfl
theorem dX2_layTable_11 : decode cX2_layTable 11 = .ok (.iconst 0, 1) := dec_0 oX2_layTable (of3 _) rfl
theorem dX2_layTable_12 : decode cX2_layTable 12 = .ok (.istore_n 2, 1) := dec_0 oX2_layTable (of61 _) rfl
theorem dX2_layTable_13 : decode cX2_layTable 13 = .ok (.iload_n 2, 1) := dec_0 oX2_layTable (of28 _) rfl
theorem dX2_layTable_14 : decode cX2_layTable 14 = .ok (.aload_n 0, 1) := dec_0 oX2_layTable (of42 _) rfl
theorem dX2_layTable_15 : decode cX2_layTable 15 = .ok (.getfield 24, 3) := dec_2 oX2_layTable (of180 _) 0 24 rfl rfl
theorem dX2_layTable_18 : decode cX2_layTable 18 = .ok (.if_icmp .ge 24, 3) := dec_s2 oX2_layTable (of162 _) 0 24 rfl (sg16p rfl) rfl
theorem dX2_layTable_21 : decode cX2_layTable 21 = .ok (.aload_n 0, 1) := dec_0 oX2_layTable (of42 _) rfl
theorem dX2_layTable_22 : decode cX2_layTable 22 = .ok (.iload_n 2, 1) := dec_0 oX2_layTable (of28 _) rfl
theorem dX2_layTable_23 : decode cX2_layTable 23 = .ok (.invokevirtual 94, 3) := dec_2 oX2_layTable (of182 _) 0 94 rfl rfl
theorem dX2_layTable_26 : decode cX2_layTable 26 = .ok (.iload_n 1, 1) := dec_0 oX2_layTable (of27 _) rfl
theorem dX2_layTable_27 : decode cX2_layTable 27 = .ok (.if_icmp .lt 9, 3) := dec_s2 oX2_layTable (of161 _) 0 9 rfl (sg16p rfl) rfl
theorem dX2_layTable_30 : decode cX2_layTable 30 = .ok (.aload_n 0, 1) := dec_0 oX2_layTable (of42 _) rfl
theorem dX2_layTable_31 : decode cX2_layTable 31 = .ok (.iload_n 2, 1) := dec_0 oX2_layTable (of28 _) rfl
theorem dX2_layTable_32 : decode cX2_layTable 32 = .ok (.putfield 79, 3) := dec_2 oX2_layTable (of181 _) 0 79 rfl rfl
theorem dX2_layTable_35 : decode cX2_layTable 35 = .ok (.return_, 1) := dec_0 oX2_layTable (of177 _) rfl
theorem dX2_layTable_36 : decode cX2_layTable 36 = .ok (.iinc 2 1, 3) := dec_ii oX2_layTable (of132 _) 2 1 rfl (sg8p rfl) rfl
theorem dX2_layTable_39 : decode cX2_layTable 39 = .ok (.goto (-26), 3) := dec_s2 oX2_layTable (of167 _) 255 230 rfl (sg16n (k := 26) rfl) rfl
theorem dX2_layTable_42 : decode cX2_layTable 42 = .ok (.return_, 1) := dec_0 oX2_layTable (of177 _) rfl
theorem dX2_layRow_0 : decode cX2_layRow 0 = .ok (.iconst 0, 1) := dec_0 oX2_layRow (of3 _) rfl
theorem dX2_layRow_1 : decode cX2_layRow 1 = .ok (.iload_n 1, 1) := dec_0 oX2_layRow (of27 _) rfl
theorem dX2_layRow_2 : decode cX2_layRow 2 = .ok (.aload_n 0, 1) := dec_0 oX2_layRow (of42 _) rfl
theorem dX2_layRow_3 : decode cX2_layRow 3 = .ok (.getfield 37, 3) := dec_2 oX2_layRow (of180 _) 0 37 rfl rfl
theorem dX2_layRow_6 : decode cX2_layRow 6 = .ok (.isub, 1) := dec_0 oX2_layRow (of100 _) rfl
theorem dX2_layRow_7 : decode cX2_layRow 7 = .ok (.invokestatic 34, 3) := dec_2 oX2_layRow (of184 _) 0 34 rfl rfl
theorem dX2_layRow_10 : decode cX2_layRow 10 = .ok (.istore_n 2, 1) := dec_0 oX2_layRow (of61 _) rfl
theorem dX2_layRow_11 : decode cX2_layRow 11 = .ok (.aload_n 0, 1) := dec_0 oX2_layRow (of42 _) rfl
theorem dX2_layRow_12 : decode cX2_layRow 12 = .ok (.getfield 24, 3) := dec_2 oX2_layRow (of180 _) 0 24 rfl rfl
theorem dX2_layRow_15 : decode cX2_layRow 15 = .ok (.iconst 1, 1) := dec_0 oX2_layRow (of4 _) rfl
theorem dX2_layRow_16 : decode cX2_layRow 16 = .ok (.isub, 1) := dec_0 oX2_layRow (of100 _) rfl
theorem dX2_layRow_17 : decode cX2_layRow 17 = .ok (.iload_n 1, 1) := dec_0 oX2_layRow (of27 _) rfl
theorem dX2_layRow_18 : decode cX2_layRow 18 = .ok (.aload_n 0, 1) := dec_0 oX2_layRow (of42 _) rfl
theorem dX2_layRow_19 : decode cX2_layRow 19 = .ok (.getfield 37, 3) := dec_2 oX2_layRow (of180 _) 0 37 rfl rfl
theorem dX2_layRow_22 : decode cX2_layRow 22 = .ok (.iadd, 1) := dec_0 oX2_layRow (of96 _) rfl
theorem dX2_layRow_23 : decode cX2_layRow 23 = .ok (.invokestatic 28, 3) := dec_2 oX2_layRow (of184 _) 0 28 rfl rfl
theorem dX2_layRow_26 : decode cX2_layRow 26 = .ok (.istore_n 3, 1) := dec_0 oX2_layRow (of62 _) rfl
theorem dX2_layRow_27 : decode cX2_layRow 27 = .ok (.ldc 93, 2) := dec_1 oX2_layRow (of18 _) 93 rfl rfl
theorem dX2_layRow_29 : decode cX2_layRow 29 = .ok (.istore 4, 2) := dec_1 oX2_layRow (of54 _) 4 rfl rfl
theorem dX2_layRow_31 : decode cX2_layRow 31 = .ok (.iload_n 2, 1) := dec_0 oX2_layRow (of28 _) rfl
theorem dX2_layRow_32 : decode cX2_layRow 32 = .ok (.istore 5, 2) := dec_1 oX2_layRow (of54 _) 5 rfl rfl
theorem dX2_layRow_34 : decode cX2_layRow 34 = .ok (.iload 5, 2) := dec_1 oX2_layRow (of21 _) 5 rfl rfl
theorem dX2_layRow_36 : decode cX2_layRow 36 = .ok (.iload_n 3, 1) := dec_0 oX2_layRow (of29 _) rfl
theorem dX2_layRow_37 : decode cX2_layRow 37 = .ok (.if_icmp .gt 74, 3) := dec_s2 oX2_layRow (of163 _) 0 74 rfl (sg16p rfl) rfl
theorem dX2_layRow_40 : decode cX2_layRow 40 = .ok (.aload_n 0, 1) := dec_0 oX2_layRow (of42 _) rfl
theorem dX2_layRow_41 : decode cX2_layRow 41 = .ok (.aload_n 0, 1) := dec_0 oX2_layRow (of42 _) rfl
theorem dX2_layRow_42 : decode cX2_layRow 42 = .ok (.getfield 9, 3) := dec_2 oX2_layRow (of180 _) 0 9 rfl rfl
theorem dX2_layRow_45 : decode cX2_layRow 45 = .ok (.iload_n 1, 1) := dec_0 oX2_layRow (of27 _) rfl
theorem dX2_layRow_46 : decode cX2_layRow 46 = .ok (.iaload, 1) := dec_0 oX2_layRow (of46 _) rfl
theorem dX2_layRow_47 : decode cX2_layRow 47 = .ok (.aload_n 0, 1) := dec_0 oX2_layRow (of42 _) rfl
theorem dX2_layRow_48 : decode cX2_layRow 48 = .ok (.getfield 15, 3) := dec_2 oX2_layRow (of180 _) 0 15 rfl rfl
theorem dX2_layRow_51 : decode cX2_layRow 51 = .ok (.iload 5, 2) := dec_1 oX2_layRow (of21 _) 5 rfl rfl
theorem dX2_layRow_53 : decode cX2_layRow 53 = .ok (.iaload, 1) := dec_0 oX2_layRow (of46 _) rfl
theorem dX2_layRow_54 : decode cX2_layRow 54 = .ok (.invokevirtual 65, 3) := dec_2 oX2_layRow (of182 _) 0 65 rfl rfl
theorem dX2_layRow_57 : decode cX2_layRow 57 = .ok (.istore 6, 2) := dec_1 oX2_layRow (of54 _) 6 rfl rfl
theorem dX2_layRow_59 : decode cX2_layRow 59 = .ok (.iload_n 1, 1) := dec_0 oX2_layRow (of27 _) rfl
theorem dX2_layRow_60 : decode cX2_layRow 60 = .ok (.ifCond .gt 8, 3) := dec_s2 oX2_layRow (of157 _) 0 8 rfl (sg16p rfl) rfl
theorem dX2_layRow_63 : decode cX2_layRow 63 = .ok (.iload 5, 2) := dec_1 oX2_layRow (of21 _) 5 rfl rfl
theorem dX2_layRow_65 : decode cX2_layRow 65 = .ok (.ifCond .le 15, 3) := dec_s2 oX2_layRow (of158 _) 0 15 rfl (sg16p rfl) rfl
theorem dX2_layRow_68 : decode cX2_layRow 68 = .ok (.iload 6, 2) := dec_1 oX2_layRow (of21 _) 6 rfl rfl
theorem dX2_layRow_70 : decode cX2_layRow 70 = .ok (.aload_n 0, 1) := dec_0 oX2_layRow (of42 _) rfl
theorem dX2_layRow_71 : decode cX2_layRow 71 = .ok (.iload_n 1, 1) := dec_0 oX2_layRow (of27 _) rfl
theorem dX2_layRow_72 : decode cX2_layRow 72 = .ok (.iload 5, 2) := dec_1 oX2_layRow (of21 _) 5 rfl rfl
theorem dX2_layRow_74 : decode cX2_layRow 74 = .ok (.invokevirtual 98, 3) := dec_2 oX2_layRow (of182 _) 0 98 rfl rfl
theorem dX2_layRow_77 : decode cX2_layRow 77 = .ok (.iadd, 1) := dec_0 oX2_layRow (of96 _) rfl
theorem dX2_layRow_78 : decode cX2_layRow 78 = .ok (.istore 6, 2) := dec_1 oX2_layRow (of54 _) 6 rfl rfl
theorem dX2_layRow_80 : decode cX2_layRow 80 = .ok (.aload_n 0, 1) := dec_0 oX2_layRow (of42 _) rfl
theorem dX2_layRow_81 : decode cX2_layRow 81 = .ok (.getfield 18, 3) := dec_2 oX2_layRow (of180 _) 0 18 rfl rfl
theorem dX2_layRow_84 : decode cX2_layRow 84 = .ok (.iload_n 1, 1) := dec_0 oX2_layRow (of27 _) rfl
theorem dX2_layRow_85 : decode cX2_layRow 85 = .ok (.bipush 16, 2) := dec_s1 oX2_layRow (of16 _) 16 rfl (sg8p rfl) rfl
theorem dX2_layRow_87 : decode cX2_layRow 87 = .ok (.imul, 1) := dec_0 oX2_layRow (of104 _) rfl
theorem dX2_layRow_88 : decode cX2_layRow 88 = .ok (.iload 5, 2) := dec_1 oX2_layRow (of21 _) 5 rfl rfl
theorem dX2_layRow_90 : decode cX2_layRow 90 = .ok (.iadd, 1) := dec_0 oX2_layRow (of96 _) rfl
theorem dX2_layRow_91 : decode cX2_layRow 91 = .ok (.iload 6, 2) := dec_1 oX2_layRow (of21 _) 6 rfl rfl
theorem dX2_layRow_93 : decode cX2_layRow 93 = .ok (.iastore, 1) := dec_0 oX2_layRow (of79 _) rfl
theorem dX2_layRow_94 : decode cX2_layRow 94 = .ok (.iload 6, 2) := dec_1 oX2_layRow (of21 _) 6 rfl rfl
theorem dX2_layRow_96 : decode cX2_layRow 96 = .ok (.iload 4, 2) := dec_1 oX2_layRow (of21 _) 4 rfl rfl
theorem dX2_layRow_98 : decode cX2_layRow 98 = .ok (.if_icmp .ge 7, 3) := dec_s2 oX2_layRow (of162 _) 0 7 rfl (sg16p rfl) rfl
theorem dX2_layRow_101 : decode cX2_layRow 101 = .ok (.iload 6, 2) := dec_1 oX2_layRow (of21 _) 6 rfl rfl
theorem dX2_layRow_103 : decode cX2_layRow 103 = .ok (.istore 4, 2) := dec_1 oX2_layRow (of54 _) 4 rfl rfl
theorem dX2_layRow_105 : decode cX2_layRow 105 = .ok (.iinc 5 1, 3) := dec_ii oX2_layRow (of132 _) 5 1 rfl (sg8p rfl) rfl
theorem dX2_layRow_108 : decode cX2_layRow 108 = .ok (.goto (-74), 3) := dec_s2 oX2_layRow (of167 _) 255 182 rfl (sg16n (k := 74) rfl) rfl
theorem dX2_layRow_111 : decode cX2_layRow 111 = .ok (.aload_n 0, 1) := dec_0 oX2_layRow (of42 _) rfl
theorem dX2_layRow_112 : decode cX2_layRow 112 = .ok (.dup, 1) := dec_0 oX2_layRow (of89 _) rfl
theorem dX2_layRow_113 : decode cX2_layRow 113 = .ok (.getfield 76, 3) := dec_2 oX2_layRow (of180 _) 0 76 rfl rfl
theorem dX2_layRow_116 : decode cX2_layRow 116 = .ok (.iload_n 3, 1) := dec_0 oX2_layRow (of29 _) rfl
theorem dX2_layRow_117 : decode cX2_layRow 117 = .ok (.iload_n 2, 1) := dec_0 oX2_layRow (of28 _) rfl
theorem dX2_layRow_118 : decode cX2_layRow 118 = .ok (.isub, 1) := dec_0 oX2_layRow (of100 _) rfl
theorem dX2_layRow_119 : decode cX2_layRow 119 = .ok (.iconst 1, 1) := dec_0 oX2_layRow (of4 _) rfl
theorem dX2_layRow_120 : decode cX2_layRow 120 = .ok (.iadd, 1) := dec_0 oX2_layRow (of96 _) rfl
theorem dX2_layRow_121 : decode cX2_layRow 121 = .ok (.iadd, 1) := dec_0 oX2_layRow (of96 _) rfl
theorem dX2_layRow_122 : decode cX2_layRow 122 = .ok (.putfield 76, 3) := dec_2 oX2_layRow (of181 _) 0 76 rfl rfl
theorem dX2_layRow_125 : decode cX2_layRow 125 = .ok (.iload 4, 2) := dec_1 oX2_layRow (of21 _) 4 rfl rfl
theorem dX2_layRow_127 : decode cX2_layRow 127 = .ok (.ireturn, 1) := dec_0 oX2_layRow (of172 _) rfl
theorem dX2_leastAhead_0 : decode cX2_leastAhead 0 = .ok (.iload_n 1, 1) := dec_0 oX2_leastAhead (of27 _) rfl
theorem dX2_leastAhead_1 : decode cX2_leastAhead 1 = .ok (.bipush 16, 2) := dec_s1 oX2_leastAhead (of16 _) 16 rfl (sg8p rfl) rfl
theorem dX2_leastAhead_3 : decode cX2_leastAhead 3 = .ok (.imul, 1) := dec_0 oX2_leastAhead (of104 _) rfl
theorem dX2_leastAhead_4 : decode cX2_leastAhead 4 = .ok (.iload_n 2, 1) := dec_0 oX2_leastAhead (of28 _) rfl
theorem dX2_leastAhead_5 : decode cX2_leastAhead 5 = .ok (.iadd, 1) := dec_0 oX2_leastAhead (of96 _) rfl
theorem dX2_leastAhead_6 : decode cX2_leastAhead 6 = .ok (.istore_n 3, 1) := dec_0 oX2_leastAhead (of62 _) rfl
theorem dX2_leastAhead_7 : decode cX2_leastAhead 7 = .ok (.ldc 93, 2) := dec_1 oX2_leastAhead (of18 _) 93 rfl rfl
theorem dX2_leastAhead_9 : decode cX2_leastAhead 9 = .ok (.istore 4, 2) := dec_1 oX2_leastAhead (of54 _) 4 rfl rfl
theorem dX2_leastAhead_11 : decode cX2_leastAhead 11 = .ok (.iload_n 1, 1) := dec_0 oX2_leastAhead (of27 _) rfl
theorem dX2_leastAhead_12 : decode cX2_leastAhead 12 = .ok (.ifCond .le 20, 3) := dec_s2 oX2_leastAhead (of158 _) 0 20 rfl (sg16p rfl) rfl
theorem dX2_leastAhead_15 : decode cX2_leastAhead 15 = .ok (.iload_n 2, 1) := dec_0 oX2_leastAhead (of28 _) rfl
theorem dX2_leastAhead_16 : decode cX2_leastAhead 16 = .ok (.ifCond .le 16, 3) := dec_s2 oX2_leastAhead (of158 _) 0 16 rfl (sg16p rfl) rfl
theorem dX2_leastAhead_19 : decode cX2_leastAhead 19 = .ok (.aload_n 0, 1) := dec_0 oX2_leastAhead (of42 _) rfl
theorem dX2_leastAhead_20 : decode cX2_leastAhead 20 = .ok (.getfield 18, 3) := dec_2 oX2_leastAhead (of180 _) 0 18 rfl rfl
theorem dX2_leastAhead_23 : decode cX2_leastAhead 23 = .ok (.iload_n 3, 1) := dec_0 oX2_leastAhead (of29 _) rfl
theorem dX2_leastAhead_24 : decode cX2_leastAhead 24 = .ok (.bipush 16, 2) := dec_s1 oX2_leastAhead (of16 _) 16 rfl (sg8p rfl) rfl
theorem dX2_leastAhead_26 : decode cX2_leastAhead 26 = .ok (.isub, 1) := dec_0 oX2_leastAhead (of100 _) rfl
theorem dX2_leastAhead_27 : decode cX2_leastAhead 27 = .ok (.iconst 1, 1) := dec_0 oX2_leastAhead (of4 _) rfl
theorem dX2_leastAhead_28 : decode cX2_leastAhead 28 = .ok (.isub, 1) := dec_0 oX2_leastAhead (of100 _) rfl
theorem dX2_leastAhead_29 : decode cX2_leastAhead 29 = .ok (.iaload, 1) := dec_0 oX2_leastAhead (of46 _) rfl
theorem dX2_leastAhead_30 : decode cX2_leastAhead 30 = .ok (.istore 4, 2) := dec_1 oX2_leastAhead (of54 _) 4 rfl rfl
theorem dX2_leastAhead_32 : decode cX2_leastAhead 32 = .ok (.iload_n 1, 1) := dec_0 oX2_leastAhead (of27 _) rfl
theorem dX2_leastAhead_33 : decode cX2_leastAhead 33 = .ok (.ifCond .le 38, 3) := dec_s2 oX2_leastAhead (of158 _) 0 38 rfl (sg16p rfl) rfl
theorem dX2_leastAhead_36 : decode cX2_leastAhead 36 = .ok (.iload_n 2, 1) := dec_0 oX2_leastAhead (of28 _) rfl
theorem dX2_leastAhead_37 : decode cX2_leastAhead 37 = .ok (.iload_n 1, 1) := dec_0 oX2_leastAhead (of27 _) rfl
theorem dX2_leastAhead_38 : decode cX2_leastAhead 38 = .ok (.isub, 1) := dec_0 oX2_leastAhead (of100 _) rfl
theorem dX2_leastAhead_39 : decode cX2_leastAhead 39 = .ok (.aload_n 0, 1) := dec_0 oX2_leastAhead (of42 _) rfl
theorem dX2_leastAhead_40 : decode cX2_leastAhead 40 = .ok (.getfield 37, 3) := dec_2 oX2_leastAhead (of180 _) 0 37 rfl rfl
theorem dX2_leastAhead_43 : decode cX2_leastAhead 43 = .ok (.if_icmp .ge 28, 3) := dec_s2 oX2_leastAhead (of162 _) 0 28 rfl (sg16p rfl) rfl
theorem dX2_leastAhead_46 : decode cX2_leastAhead 46 = .ok (.aload_n 0, 1) := dec_0 oX2_leastAhead (of42 _) rfl
theorem dX2_leastAhead_47 : decode cX2_leastAhead 47 = .ok (.getfield 18, 3) := dec_2 oX2_leastAhead (of180 _) 0 18 rfl rfl
theorem dX2_leastAhead_50 : decode cX2_leastAhead 50 = .ok (.iload_n 3, 1) := dec_0 oX2_leastAhead (of29 _) rfl
theorem dX2_leastAhead_51 : decode cX2_leastAhead 51 = .ok (.bipush 16, 2) := dec_s1 oX2_leastAhead (of16 _) 16 rfl (sg8p rfl) rfl
theorem dX2_leastAhead_53 : decode cX2_leastAhead 53 = .ok (.isub, 1) := dec_0 oX2_leastAhead (of100 _) rfl
theorem dX2_leastAhead_54 : decode cX2_leastAhead 54 = .ok (.iaload, 1) := dec_0 oX2_leastAhead (of46 _) rfl
theorem dX2_leastAhead_55 : decode cX2_leastAhead 55 = .ok (.iload 4, 2) := dec_1 oX2_leastAhead (of21 _) 4 rfl rfl
theorem dX2_leastAhead_57 : decode cX2_leastAhead 57 = .ok (.if_icmp .ge 14, 3) := dec_s2 oX2_leastAhead (of162 _) 0 14 rfl (sg16p rfl) rfl
theorem dX2_leastAhead_60 : decode cX2_leastAhead 60 = .ok (.aload_n 0, 1) := dec_0 oX2_leastAhead (of42 _) rfl
theorem dX2_leastAhead_61 : decode cX2_leastAhead 61 = .ok (.getfield 18, 3) := dec_2 oX2_leastAhead (of180 _) 0 18 rfl rfl
theorem dX2_leastAhead_64 : decode cX2_leastAhead 64 = .ok (.iload_n 3, 1) := dec_0 oX2_leastAhead (of29 _) rfl
theorem dX2_leastAhead_65 : decode cX2_leastAhead 65 = .ok (.bipush 16, 2) := dec_s1 oX2_leastAhead (of16 _) 16 rfl (sg8p rfl) rfl
theorem dX2_leastAhead_67 : decode cX2_leastAhead 67 = .ok (.isub, 1) := dec_0 oX2_leastAhead (of100 _) rfl
theorem dX2_leastAhead_68 : decode cX2_leastAhead 68 = .ok (.iaload, 1) := dec_0 oX2_leastAhead (of46 _) rfl
theorem dX2_leastAhead_69 : decode cX2_leastAhead 69 = .ok (.istore 4, 2) := dec_1 oX2_leastAhead (of54 _) 4 rfl rfl
theorem dX2_leastAhead_71 : decode cX2_leastAhead 71 = .ok (.iload_n 2, 1) := dec_0 oX2_leastAhead (of28 _) rfl
theorem dX2_leastAhead_72 : decode cX2_leastAhead 72 = .ok (.ifCond .le 36, 3) := dec_s2 oX2_leastAhead (of158 _) 0 36 rfl (sg16p rfl) rfl
theorem dX2_leastAhead_75 : decode cX2_leastAhead 75 = .ok (.iload_n 1, 1) := dec_0 oX2_leastAhead (of27 _) rfl
theorem dX2_leastAhead_76 : decode cX2_leastAhead 76 = .ok (.iload_n 2, 1) := dec_0 oX2_leastAhead (of28 _) rfl
theorem dX2_leastAhead_77 : decode cX2_leastAhead 77 = .ok (.isub, 1) := dec_0 oX2_leastAhead (of100 _) rfl
theorem dX2_leastAhead_78 : decode cX2_leastAhead 78 = .ok (.aload_n 0, 1) := dec_0 oX2_leastAhead (of42 _) rfl
theorem dX2_leastAhead_79 : decode cX2_leastAhead 79 = .ok (.getfield 37, 3) := dec_2 oX2_leastAhead (of180 _) 0 37 rfl rfl
theorem dX2_leastAhead_82 : decode cX2_leastAhead 82 = .ok (.if_icmp .ge 26, 3) := dec_s2 oX2_leastAhead (of162 _) 0 26 rfl (sg16p rfl) rfl
theorem dX2_leastAhead_85 : decode cX2_leastAhead 85 = .ok (.aload_n 0, 1) := dec_0 oX2_leastAhead (of42 _) rfl
theorem dX2_leastAhead_86 : decode cX2_leastAhead 86 = .ok (.getfield 18, 3) := dec_2 oX2_leastAhead (of180 _) 0 18 rfl rfl
theorem dX2_leastAhead_89 : decode cX2_leastAhead 89 = .ok (.iload_n 3, 1) := dec_0 oX2_leastAhead (of29 _) rfl
theorem dX2_leastAhead_90 : decode cX2_leastAhead 90 = .ok (.iconst 1, 1) := dec_0 oX2_leastAhead (of4 _) rfl
theorem dX2_leastAhead_91 : decode cX2_leastAhead 91 = .ok (.isub, 1) := dec_0 oX2_leastAhead (of100 _) rfl
theorem dX2_leastAhead_92 : decode cX2_leastAhead 92 = .ok (.iaload, 1) := dec_0 oX2_leastAhead (of46 _) rfl
theorem dX2_leastAhead_93 : decode cX2_leastAhead 93 = .ok (.iload 4, 2) := dec_1 oX2_leastAhead (of21 _) 4 rfl rfl
theorem dX2_leastAhead_95 : decode cX2_leastAhead 95 = .ok (.if_icmp .ge 13, 3) := dec_s2 oX2_leastAhead (of162 _) 0 13 rfl (sg16p rfl) rfl
theorem dX2_leastAhead_98 : decode cX2_leastAhead 98 = .ok (.aload_n 0, 1) := dec_0 oX2_leastAhead (of42 _) rfl
theorem dX2_leastAhead_99 : decode cX2_leastAhead 99 = .ok (.getfield 18, 3) := dec_2 oX2_leastAhead (of180 _) 0 18 rfl rfl
theorem dX2_leastAhead_102 : decode cX2_leastAhead 102 = .ok (.iload_n 3, 1) := dec_0 oX2_leastAhead (of29 _) rfl
theorem dX2_leastAhead_103 : decode cX2_leastAhead 103 = .ok (.iconst 1, 1) := dec_0 oX2_leastAhead (of4 _) rfl
theorem dX2_leastAhead_104 : decode cX2_leastAhead 104 = .ok (.isub, 1) := dec_0 oX2_leastAhead (of100 _) rfl
theorem dX2_leastAhead_105 : decode cX2_leastAhead 105 = .ok (.iaload, 1) := dec_0 oX2_leastAhead (of46 _) rfl
theorem dX2_leastAhead_106 : decode cX2_leastAhead 106 = .ok (.istore 4, 2) := dec_1 oX2_leastAhead (of54 _) 4 rfl rfl
theorem dX2_leastAhead_108 : decode cX2_leastAhead 108 = .ok (.iload 4, 2) := dec_1 oX2_leastAhead (of21 _) 4 rfl rfl
theorem dX2_leastAhead_110 : decode cX2_leastAhead 110 = .ok (.ireturn, 1) := dec_0 oX2_leastAhead (of172 _) rfl
theorem dX2_cellAt_0 : decode cX2_cellAt 0 = .ok (.iload_n 1, 1) := dec_0 oX2_cellAt (of27 _) rfl
theorem dX2_cellAt_1 : decode cX2_cellAt 1 = .ok (.ifCond .lt 47, 3) := dec_s2 oX2_cellAt (of155 _) 0 47 rfl (sg16p rfl) rfl
theorem dX2_cellAt_4 : decode cX2_cellAt 4 = .ok (.iload_n 2, 1) := dec_0 oX2_cellAt (of28 _) rfl
theorem dX2_cellAt_5 : decode cX2_cellAt 5 = .ok (.ifCond .lt 43, 3) := dec_s2 oX2_cellAt (of155 _) 0 43 rfl (sg16p rfl) rfl
theorem dX2_cellAt_8 : decode cX2_cellAt 8 = .ok (.iload_n 1, 1) := dec_0 oX2_cellAt (of27 _) rfl
theorem dX2_cellAt_9 : decode cX2_cellAt 9 = .ok (.aload_n 0, 1) := dec_0 oX2_cellAt (of42 _) rfl
theorem dX2_cellAt_10 : decode cX2_cellAt 10 = .ok (.getfield 24, 3) := dec_2 oX2_cellAt (of180 _) 0 24 rfl rfl
theorem dX2_cellAt_13 : decode cX2_cellAt 13 = .ok (.if_icmp .ge 35, 3) := dec_s2 oX2_cellAt (of162 _) 0 35 rfl (sg16p rfl) rfl
theorem dX2_cellAt_16 : decode cX2_cellAt 16 = .ok (.iload_n 2, 1) := dec_0 oX2_cellAt (of28 _) rfl
theorem dX2_cellAt_17 : decode cX2_cellAt 17 = .ok (.aload_n 0, 1) := dec_0 oX2_cellAt (of42 _) rfl
theorem dX2_cellAt_18 : decode cX2_cellAt 18 = .ok (.getfield 24, 3) := dec_2 oX2_cellAt (of180 _) 0 24 rfl rfl
theorem dX2_cellAt_21 : decode cX2_cellAt 21 = .ok (.if_icmp .ge 27, 3) := dec_s2 oX2_cellAt (of162 _) 0 27 rfl (sg16p rfl) rfl
theorem dX2_cellAt_24 : decode cX2_cellAt 24 = .ok (.iload_n 1, 1) := dec_0 oX2_cellAt (of27 _) rfl
theorem dX2_cellAt_25 : decode cX2_cellAt 25 = .ok (.iload_n 2, 1) := dec_0 oX2_cellAt (of28 _) rfl
theorem dX2_cellAt_26 : decode cX2_cellAt 26 = .ok (.isub, 1) := dec_0 oX2_cellAt (of100 _) rfl
theorem dX2_cellAt_27 : decode cX2_cellAt 27 = .ok (.aload_n 0, 1) := dec_0 oX2_cellAt (of42 _) rfl
theorem dX2_cellAt_28 : decode cX2_cellAt 28 = .ok (.getfield 37, 3) := dec_2 oX2_cellAt (of180 _) 0 37 rfl rfl
theorem dX2_cellAt_31 : decode cX2_cellAt 31 = .ok (.if_icmp .gt 17, 3) := dec_s2 oX2_cellAt (of163 _) 0 17 rfl (sg16p rfl) rfl
theorem dX2_cellAt_34 : decode cX2_cellAt 34 = .ok (.iload_n 2, 1) := dec_0 oX2_cellAt (of28 _) rfl
theorem dX2_cellAt_35 : decode cX2_cellAt 35 = .ok (.iload_n 1, 1) := dec_0 oX2_cellAt (of27 _) rfl
theorem dX2_cellAt_36 : decode cX2_cellAt 36 = .ok (.isub, 1) := dec_0 oX2_cellAt (of100 _) rfl
theorem dX2_cellAt_37 : decode cX2_cellAt 37 = .ok (.aload_n 0, 1) := dec_0 oX2_cellAt (of42 _) rfl
theorem dX2_cellAt_38 : decode cX2_cellAt 38 = .ok (.getfield 37, 3) := dec_2 oX2_cellAt (of180 _) 0 37 rfl rfl
theorem dX2_cellAt_41 : decode cX2_cellAt 41 = .ok (.if_icmp .gt 7, 3) := dec_s2 oX2_cellAt (of163 _) 0 7 rfl (sg16p rfl) rfl
theorem dX2_cellAt_44 : decode cX2_cellAt 44 = .ok (.iconst 1, 1) := dec_0 oX2_cellAt (of4 _) rfl
theorem dX2_cellAt_45 : decode cX2_cellAt 45 = .ok (.goto 4, 3) := dec_s2 oX2_cellAt (of167 _) 0 4 rfl (sg16p rfl) rfl
theorem dX2_cellAt_48 : decode cX2_cellAt 48 = .ok (.iconst 0, 1) := dec_0 oX2_cellAt (of3 _) rfl
theorem dX2_cellAt_49 : decode cX2_cellAt 49 = .ok (.istore_n 3, 1) := dec_0 oX2_cellAt (of62 _) rfl
theorem dX2_cellAt_50 : decode cX2_cellAt 50 = .ok (.iload_n 3, 1) := dec_0 oX2_cellAt (of29 _) rfl
theorem dX2_cellAt_51 : decode cX2_cellAt 51 = .ok (.ifCond .eq 17, 3) := dec_s2 oX2_cellAt (of153 _) 0 17 rfl (sg16p rfl) rfl
theorem dX2_cellAt_54 : decode cX2_cellAt 54 = .ok (.aload_n 0, 1) := dec_0 oX2_cellAt (of42 _) rfl
theorem dX2_cellAt_55 : decode cX2_cellAt 55 = .ok (.getfield 18, 3) := dec_2 oX2_cellAt (of180 _) 0 18 rfl rfl
theorem dX2_cellAt_58 : decode cX2_cellAt 58 = .ok (.iload_n 1, 1) := dec_0 oX2_cellAt (of27 _) rfl
theorem dX2_cellAt_59 : decode cX2_cellAt 59 = .ok (.bipush 16, 2) := dec_s1 oX2_cellAt (of16 _) 16 rfl (sg8p rfl) rfl
theorem dX2_cellAt_61 : decode cX2_cellAt 61 = .ok (.imul, 1) := dec_0 oX2_cellAt (of104 _) rfl
theorem dX2_cellAt_62 : decode cX2_cellAt 62 = .ok (.iload_n 2, 1) := dec_0 oX2_cellAt (of28 _) rfl
theorem dX2_cellAt_63 : decode cX2_cellAt 63 = .ok (.iadd, 1) := dec_0 oX2_cellAt (of96 _) rfl
theorem dX2_cellAt_64 : decode cX2_cellAt 64 = .ok (.iaload, 1) := dec_0 oX2_cellAt (of46 _) rfl
theorem dX2_cellAt_65 : decode cX2_cellAt 65 = .ok (.goto 5, 3) := dec_s2 oX2_cellAt (of167 _) 0 5 rfl (sg16p rfl) rfl
theorem dX2_cellAt_68 : decode cX2_cellAt 68 = .ok (.ldc 93, 2) := dec_1 oX2_cellAt (of18 _) 93 rfl rfl
theorem dX2_cellAt_70 : decode cX2_cellAt 70 = .ok (.ireturn, 1) := dec_0 oX2_cellAt (of172 _) rfl
theorem dX2_traceWay_0 : decode cX2_traceWay 0 = .ok (.aload_n 0, 1) := dec_0 oX2_traceWay (of42 _) rfl
theorem dX2_traceWay_1 : decode cX2_traceWay 1 = .ok (.ldc 93, 2) := dec_1 oX2_traceWay (of18 _) 93 rfl rfl
theorem dX2_traceWay_3 : decode cX2_traceWay 3 = .ok (.invokevirtual 86, 3) := dec_2 oX2_traceWay (of182 _) 0 86 rfl rfl
theorem dX2_traceWay_6 : decode cX2_traceWay 6 = .ok (.aload_n 0, 1) := dec_0 oX2_traceWay (of42 _) rfl
theorem dX2_traceWay_7 : decode cX2_traceWay 7 = .ok (.iconst 0, 1) := dec_0 oX2_traceWay (of3 _) rfl
theorem dX2_traceWay_8 : decode cX2_traceWay 8 = .ok (.putfield 101, 3) := dec_2 oX2_traceWay (of181 _) 0 101 rfl rfl
theorem dX2_traceWay_11 : decode cX2_traceWay 11 = .ok (.aload_n 0, 1) := dec_0 oX2_traceWay (of42 _) rfl
theorem dX2_traceWay_12 : decode cX2_traceWay 12 = .ok (.getfield 24, 3) := dec_2 oX2_traceWay (of180 _) 0 24 rfl rfl
theorem dX2_traceWay_15 : decode cX2_traceWay 15 = .ok (.iconst 1, 1) := dec_0 oX2_traceWay (of4 _) rfl
theorem dX2_traceWay_16 : decode cX2_traceWay 16 = .ok (.isub, 1) := dec_0 oX2_traceWay (of100 _) rfl
theorem dX2_traceWay_17 : decode cX2_traceWay 17 = .ok (.istore_n 1, 1) := dec_0 oX2_traceWay (of60 _) rfl
theorem dX2_traceWay_18 : decode cX2_traceWay 18 = .ok (.aload_n 0, 1) := dec_0 oX2_traceWay (of42 _) rfl
theorem dX2_traceWay_19 : decode cX2_traceWay 19 = .ok (.getfield 24, 3) := dec_2 oX2_traceWay (of180 _) 0 24 rfl rfl
theorem dX2_traceWay_22 : decode cX2_traceWay 22 = .ok (.iconst 1, 1) := dec_0 oX2_traceWay (of4 _) rfl
theorem dX2_traceWay_23 : decode cX2_traceWay 23 = .ok (.isub, 1) := dec_0 oX2_traceWay (of100 _) rfl
theorem dX2_traceWay_24 : decode cX2_traceWay 24 = .ok (.istore_n 2, 1) := dec_0 oX2_traceWay (of61 _) rfl
theorem dX2_traceWay_25 : decode cX2_traceWay 25 = .ok (.iconst 0, 1) := dec_0 oX2_traceWay (of3 _) rfl
theorem dX2_traceWay_26 : decode cX2_traceWay 26 = .ok (.istore_n 3, 1) := dec_0 oX2_traceWay (of62 _) rfl
theorem dX2_traceWay_27 : decode cX2_traceWay 27 = .ok (.iload_n 3, 1) := dec_0 oX2_traceWay (of29 _) rfl
theorem dX2_traceWay_28 : decode cX2_traceWay 28 = .ok (.aload_n 0, 1) := dec_0 oX2_traceWay (of42 _) rfl
theorem dX2_traceWay_29 : decode cX2_traceWay 29 = .ok (.getfield 21, 3) := dec_2 oX2_traceWay (of180 _) 0 21 rfl rfl
theorem dX2_traceWay_32 : decode cX2_traceWay 32 = .ok (.arraylength, 1) := dec_0 oX2_traceWay (of190 _) rfl
theorem dX2_traceWay_33 : decode cX2_traceWay 33 = .ok (.if_icmp .ge 107, 3) := dec_s2 oX2_traceWay (of162 _) 0 107 rfl (sg16p rfl) rfl
theorem dX2_traceWay_36 : decode cX2_traceWay 36 = .ok (.iload_n 1, 1) := dec_0 oX2_traceWay (of27 _) rfl
theorem dX2_traceWay_37 : decode cX2_traceWay 37 = .ok (.ifCond .lt 103, 3) := dec_s2 oX2_traceWay (of155 _) 0 103 rfl (sg16p rfl) rfl
theorem dX2_traceWay_40 : decode cX2_traceWay 40 = .ok (.iload_n 2, 1) := dec_0 oX2_traceWay (of28 _) rfl
theorem dX2_traceWay_41 : decode cX2_traceWay 41 = .ok (.ifCond .lt 99, 3) := dec_s2 oX2_traceWay (of155 _) 0 99 rfl (sg16p rfl) rfl
theorem dX2_traceWay_44 : decode cX2_traceWay 44 = .ok (.aload_n 0, 1) := dec_0 oX2_traceWay (of42 _) rfl
theorem dX2_traceWay_45 : decode cX2_traceWay 45 = .ok (.getfield 21, 3) := dec_2 oX2_traceWay (of180 _) 0 21 rfl rfl
theorem dX2_traceWay_48 : decode cX2_traceWay 48 = .ok (.iload_n 3, 1) := dec_0 oX2_traceWay (of29 _) rfl
theorem dX2_traceWay_49 : decode cX2_traceWay 49 = .ok (.bipush 100, 2) := dec_s1 oX2_traceWay (of16 _) 100 rfl (sg8p rfl) rfl
theorem dX2_traceWay_51 : decode cX2_traceWay 51 = .ok (.iload_n 1, 1) := dec_0 oX2_traceWay (of27 _) rfl
theorem dX2_traceWay_52 : decode cX2_traceWay 52 = .ok (.imul, 1) := dec_0 oX2_traceWay (of104 _) rfl
theorem dX2_traceWay_53 : decode cX2_traceWay 53 = .ok (.iload_n 2, 1) := dec_0 oX2_traceWay (of28 _) rfl
theorem dX2_traceWay_54 : decode cX2_traceWay 54 = .ok (.iadd, 1) := dec_0 oX2_traceWay (of96 _) rfl
theorem dX2_traceWay_55 : decode cX2_traceWay 55 = .ok (.iastore, 1) := dec_0 oX2_traceWay (of79 _) rfl
theorem dX2_traceWay_56 : decode cX2_traceWay 56 = .ok (.aload_n 0, 1) := dec_0 oX2_traceWay (of42 _) rfl
theorem dX2_traceWay_57 : decode cX2_traceWay 57 = .ok (.iload_n 3, 1) := dec_0 oX2_traceWay (of29 _) rfl
theorem dX2_traceWay_58 : decode cX2_traceWay 58 = .ok (.iconst 1, 1) := dec_0 oX2_traceWay (of4 _) rfl
theorem dX2_traceWay_59 : decode cX2_traceWay 59 = .ok (.iadd, 1) := dec_0 oX2_traceWay (of96 _) rfl
theorem dX2_traceWay_60 : decode cX2_traceWay 60 = .ok (.putfield 101, 3) := dec_2 oX2_traceWay (of181 _) 0 101 rfl rfl
theorem dX2_traceWay_63 : decode cX2_traceWay 63 = .ok (.aload_n 0, 1) := dec_0 oX2_traceWay (of42 _) rfl
theorem dX2_traceWay_64 : decode cX2_traceWay 64 = .ok (.iload_n 1, 1) := dec_0 oX2_traceWay (of27 _) rfl
theorem dX2_traceWay_65 : decode cX2_traceWay 65 = .ok (.iconst 1, 1) := dec_0 oX2_traceWay (of4 _) rfl
theorem dX2_traceWay_66 : decode cX2_traceWay 66 = .ok (.isub, 1) := dec_0 oX2_traceWay (of100 _) rfl
theorem dX2_traceWay_67 : decode cX2_traceWay 67 = .ok (.iload_n 2, 1) := dec_0 oX2_traceWay (of28 _) rfl
theorem dX2_traceWay_68 : decode cX2_traceWay 68 = .ok (.iconst 1, 1) := dec_0 oX2_traceWay (of4 _) rfl
theorem dX2_traceWay_69 : decode cX2_traceWay 69 = .ok (.isub, 1) := dec_0 oX2_traceWay (of100 _) rfl
theorem dX2_traceWay_70 : decode cX2_traceWay 70 = .ok (.invokevirtual 104, 3) := dec_2 oX2_traceWay (of182 _) 0 104 rfl rfl
theorem dX2_traceWay_73 : decode cX2_traceWay 73 = .ok (.istore 4, 2) := dec_1 oX2_traceWay (of54 _) 4 rfl rfl
theorem dX2_traceWay_75 : decode cX2_traceWay 75 = .ok (.aload_n 0, 1) := dec_0 oX2_traceWay (of42 _) rfl
theorem dX2_traceWay_76 : decode cX2_traceWay 76 = .ok (.iload_n 1, 1) := dec_0 oX2_traceWay (of27 _) rfl
theorem dX2_traceWay_77 : decode cX2_traceWay 77 = .ok (.iconst 1, 1) := dec_0 oX2_traceWay (of4 _) rfl
theorem dX2_traceWay_78 : decode cX2_traceWay 78 = .ok (.isub, 1) := dec_0 oX2_traceWay (of100 _) rfl
theorem dX2_traceWay_79 : decode cX2_traceWay 79 = .ok (.iload_n 2, 1) := dec_0 oX2_traceWay (of28 _) rfl
theorem dX2_traceWay_80 : decode cX2_traceWay 80 = .ok (.invokevirtual 104, 3) := dec_2 oX2_traceWay (of182 _) 0 104 rfl rfl
theorem dX2_traceWay_83 : decode cX2_traceWay 83 = .ok (.istore 5, 2) := dec_1 oX2_traceWay (of54 _) 5 rfl rfl
theorem dX2_traceWay_85 : decode cX2_traceWay 85 = .ok (.aload_n 0, 1) := dec_0 oX2_traceWay (of42 _) rfl
theorem dX2_traceWay_86 : decode cX2_traceWay 86 = .ok (.iload_n 1, 1) := dec_0 oX2_traceWay (of27 _) rfl
theorem dX2_traceWay_87 : decode cX2_traceWay 87 = .ok (.iload_n 2, 1) := dec_0 oX2_traceWay (of28 _) rfl
theorem dX2_traceWay_88 : decode cX2_traceWay 88 = .ok (.iconst 1, 1) := dec_0 oX2_traceWay (of4 _) rfl
theorem dX2_traceWay_89 : decode cX2_traceWay 89 = .ok (.isub, 1) := dec_0 oX2_traceWay (of100 _) rfl
theorem dX2_traceWay_90 : decode cX2_traceWay 90 = .ok (.invokevirtual 104, 3) := dec_2 oX2_traceWay (of182 _) 0 104 rfl rfl
theorem dX2_traceWay_93 : decode cX2_traceWay 93 = .ok (.istore 6, 2) := dec_1 oX2_traceWay (of54 _) 6 rfl rfl
theorem dX2_traceWay_95 : decode cX2_traceWay 95 = .ok (.iload 4, 2) := dec_1 oX2_traceWay (of21 _) 4 rfl rfl
theorem dX2_traceWay_97 : decode cX2_traceWay 97 = .ok (.iload 5, 2) := dec_1 oX2_traceWay (of21 _) 5 rfl rfl
theorem dX2_traceWay_99 : decode cX2_traceWay 99 = .ok (.if_icmp .gt 19, 3) := dec_s2 oX2_traceWay (of163 _) 0 19 rfl (sg16p rfl) rfl
theorem dX2_traceWay_102 : decode cX2_traceWay 102 = .ok (.iload 4, 2) := dec_1 oX2_traceWay (of21 _) 4 rfl rfl
theorem dX2_traceWay_104 : decode cX2_traceWay 104 = .ok (.iload 6, 2) := dec_1 oX2_traceWay (of21 _) 6 rfl rfl
theorem dX2_traceWay_106 : decode cX2_traceWay 106 = .ok (.if_icmp .gt 12, 3) := dec_s2 oX2_traceWay (of163 _) 0 12 rfl (sg16p rfl) rfl
theorem dX2_traceWay_109 : decode cX2_traceWay 109 = .ok (.iinc 1 (-1), 3) := dec_ii oX2_traceWay (of132 _) 1 255 rfl (sg8n (k := 1) rfl) rfl
theorem dX2_traceWay_112 : decode cX2_traceWay 112 = .ok (.iinc 2 (-1), 3) := dec_ii oX2_traceWay (of132 _) 2 255 rfl (sg8n (k := 1) rfl) rfl
theorem dX2_traceWay_115 : decode cX2_traceWay 115 = .ok (.goto 19, 3) := dec_s2 oX2_traceWay (of167 _) 0 19 rfl (sg16p rfl) rfl
theorem dX2_traceWay_118 : decode cX2_traceWay 118 = .ok (.iload 5, 2) := dec_1 oX2_traceWay (of21 _) 5 rfl rfl
theorem dX2_traceWay_120 : decode cX2_traceWay 120 = .ok (.iload 6, 2) := dec_1 oX2_traceWay (of21 _) 6 rfl rfl
theorem dX2_traceWay_122 : decode cX2_traceWay 122 = .ok (.if_icmp .gt 9, 3) := dec_s2 oX2_traceWay (of163 _) 0 9 rfl (sg16p rfl) rfl
theorem dX2_traceWay_125 : decode cX2_traceWay 125 = .ok (.iinc 1 (-1), 3) := dec_ii oX2_traceWay (of132 _) 1 255 rfl (sg8n (k := 1) rfl) rfl
theorem dX2_traceWay_128 : decode cX2_traceWay 128 = .ok (.goto 6, 3) := dec_s2 oX2_traceWay (of167 _) 0 6 rfl (sg16p rfl) rfl
theorem dX2_traceWay_131 : decode cX2_traceWay 131 = .ok (.iinc 2 (-1), 3) := dec_ii oX2_traceWay (of132 _) 2 255 rfl (sg8n (k := 1) rfl) rfl
theorem dX2_traceWay_134 : decode cX2_traceWay 134 = .ok (.iinc 3 1, 3) := dec_ii oX2_traceWay (of132 _) 3 1 rfl (sg8p rfl) rfl
theorem dX2_traceWay_137 : decode cX2_traceWay 137 = .ok (.goto (-110), 3) := dec_s2 oX2_traceWay (of167 _) 255 146 rfl (sg16n (k := 110) rfl) rfl
theorem dX2_traceWay_140 : decode cX2_traceWay 140 = .ok (.return_, 1) := dec_0 oX2_traceWay (of177 _) rfl
theorem dX2_wayPlace_0 : decode cX2_wayPlace 0 = .ok (.aload_n 0, 1) := dec_0 oX2_wayPlace (of42 _) rfl
theorem dX2_wayPlace_1 : decode cX2_wayPlace 1 = .ok (.getfield 101, 3) := dec_2 oX2_wayPlace (of180 _) 0 101 rfl rfl
theorem dX2_wayPlace_4 : decode cX2_wayPlace 4 = .ok (.iconst 1, 1) := dec_0 oX2_wayPlace (of4 _) rfl
theorem dX2_wayPlace_5 : decode cX2_wayPlace 5 = .ok (.isub, 1) := dec_0 oX2_wayPlace (of100 _) rfl
theorem dX2_wayPlace_6 : decode cX2_wayPlace 6 = .ok (.iload_n 1, 1) := dec_0 oX2_wayPlace (of27 _) rfl
theorem dX2_wayPlace_7 : decode cX2_wayPlace 7 = .ok (.isub, 1) := dec_0 oX2_wayPlace (of100 _) rfl
theorem dX2_wayPlace_8 : decode cX2_wayPlace 8 = .ok (.istore_n 2, 1) := dec_0 oX2_wayPlace (of61 _) rfl
theorem dX2_wayPlace_9 : decode cX2_wayPlace 9 = .ok (.iload_n 1, 1) := dec_0 oX2_wayPlace (of27 _) rfl
theorem dX2_wayPlace_10 : decode cX2_wayPlace 10 = .ok (.ifCond .lt 25, 3) := dec_s2 oX2_wayPlace (of155 _) 0 25 rfl (sg16p rfl) rfl
theorem dX2_wayPlace_13 : decode cX2_wayPlace 13 = .ok (.iload_n 2, 1) := dec_0 oX2_wayPlace (of28 _) rfl
theorem dX2_wayPlace_14 : decode cX2_wayPlace 14 = .ok (.ifCond .lt 21, 3) := dec_s2 oX2_wayPlace (of155 _) 0 21 rfl (sg16p rfl) rfl
theorem dX2_wayPlace_17 : decode cX2_wayPlace 17 = .ok (.iload_n 2, 1) := dec_0 oX2_wayPlace (of28 _) rfl
theorem dX2_wayPlace_18 : decode cX2_wayPlace 18 = .ok (.aload_n 0, 1) := dec_0 oX2_wayPlace (of42 _) rfl
theorem dX2_wayPlace_19 : decode cX2_wayPlace 19 = .ok (.getfield 21, 3) := dec_2 oX2_wayPlace (of180 _) 0 21 rfl rfl
theorem dX2_wayPlace_22 : decode cX2_wayPlace 22 = .ok (.arraylength, 1) := dec_0 oX2_wayPlace (of190 _) rfl
theorem dX2_wayPlace_23 : decode cX2_wayPlace 23 = .ok (.if_icmp .ge 12, 3) := dec_s2 oX2_wayPlace (of162 _) 0 12 rfl (sg16p rfl) rfl
theorem dX2_wayPlace_26 : decode cX2_wayPlace 26 = .ok (.aload_n 0, 1) := dec_0 oX2_wayPlace (of42 _) rfl
theorem dX2_wayPlace_27 : decode cX2_wayPlace 27 = .ok (.getfield 21, 3) := dec_2 oX2_wayPlace (of180 _) 0 21 rfl rfl
theorem dX2_wayPlace_30 : decode cX2_wayPlace 30 = .ok (.iload_n 2, 1) := dec_0 oX2_wayPlace (of28 _) rfl
theorem dX2_wayPlace_31 : decode cX2_wayPlace 31 = .ok (.iaload, 1) := dec_0 oX2_wayPlace (of46 _) rfl
theorem dX2_wayPlace_32 : decode cX2_wayPlace 32 = .ok (.goto 4, 3) := dec_s2 oX2_wayPlace (of167 _) 0 4 rfl (sg16p rfl) rfl
theorem dX2_wayPlace_35 : decode cX2_wayPlace 35 = .ok (.iconst (-1), 1) := dec_0 oX2_wayPlace (of2 _) rfl
theorem dX2_wayPlace_36 : decode cX2_wayPlace 36 = .ok (.ireturn, 1) := dec_0 oX2_wayPlace (of172 _) rfl
theorem dX2_widestOfWay_0 : decode cX2_widestOfWay 0 = .ok (.iconst 0, 1) := dec_0 oX2_widestOfWay (of3 _) rfl
theorem dX2_widestOfWay_1 : decode cX2_widestOfWay 1 = .ok (.istore_n 1, 1) := dec_0 oX2_widestOfWay (of60 _) rfl
theorem dX2_widestOfWay_2 : decode cX2_widestOfWay 2 = .ok (.iconst 0, 1) := dec_0 oX2_widestOfWay (of3 _) rfl
theorem dX2_widestOfWay_3 : decode cX2_widestOfWay 3 = .ok (.istore_n 2, 1) := dec_0 oX2_widestOfWay (of61 _) rfl
theorem dX2_widestOfWay_4 : decode cX2_widestOfWay 4 = .ok (.iload_n 2, 1) := dec_0 oX2_widestOfWay (of28 _) rfl
theorem dX2_widestOfWay_5 : decode cX2_widestOfWay 5 = .ok (.aload_n 0, 1) := dec_0 oX2_widestOfWay (of42 _) rfl
theorem dX2_widestOfWay_6 : decode cX2_widestOfWay 6 = .ok (.getfield 101, 3) := dec_2 oX2_widestOfWay (of180 _) 0 101 rfl rfl
theorem dX2_widestOfWay_9 : decode cX2_widestOfWay 9 = .ok (.if_icmp .ge 32, 3) := dec_s2 oX2_widestOfWay (of162 _) 0 32 rfl (sg16p rfl) rfl
theorem dX2_widestOfWay_12 : decode cX2_widestOfWay 12 = .ok (.aload_n 0, 1) := dec_0 oX2_widestOfWay (of42 _) rfl
theorem dX2_widestOfWay_13 : decode cX2_widestOfWay 13 = .ok (.iload_n 2, 1) := dec_0 oX2_widestOfWay (of28 _) rfl
theorem dX2_widestOfWay_14 : decode cX2_widestOfWay 14 = .ok (.invokevirtual 107, 3) := dec_2 oX2_widestOfWay (of182 _) 0 107 rfl rfl
theorem dX2_widestOfWay_17 : decode cX2_widestOfWay 17 = .ok (.istore_n 3, 1) := dec_0 oX2_widestOfWay (of62 _) rfl
theorem dX2_widestOfWay_18 : decode cX2_widestOfWay 18 = .ok (.iload_n 1, 1) := dec_0 oX2_widestOfWay (of27 _) rfl
theorem dX2_widestOfWay_19 : decode cX2_widestOfWay 19 = .ok (.iload_n 3, 1) := dec_0 oX2_widestOfWay (of29 _) rfl
theorem dX2_widestOfWay_20 : decode cX2_widestOfWay 20 = .ok (.bipush 100, 2) := dec_s1 oX2_widestOfWay (of16 _) 100 rfl (sg8p rfl) rfl
theorem dX2_widestOfWay_22 : decode cX2_widestOfWay 22 = .ok (.idiv, 1) := dec_0 oX2_widestOfWay (of108 _) rfl
theorem dX2_widestOfWay_23 : decode cX2_widestOfWay 23 = .ok (.iload_n 3, 1) := dec_0 oX2_widestOfWay (of29 _) rfl
theorem dX2_widestOfWay_24 : decode cX2_widestOfWay 24 = .ok (.bipush 100, 2) := dec_s1 oX2_widestOfWay (of16 _) 100 rfl (sg8p rfl) rfl
theorem dX2_widestOfWay_26 : decode cX2_widestOfWay 26 = .ok (.irem, 1) := dec_0 oX2_widestOfWay (of112 _) rfl
theorem dX2_widestOfWay_27 : decode cX2_widestOfWay 27 = .ok (.isub, 1) := dec_0 oX2_widestOfWay (of100 _) rfl
theorem dX2_widestOfWay_28 : decode cX2_widestOfWay 28 = .ok (.invokestatic 110, 3) := dec_2 oX2_widestOfWay (of184 _) 0 110 rfl rfl
theorem dX2_widestOfWay_31 : decode cX2_widestOfWay 31 = .ok (.invokestatic 34, 3) := dec_2 oX2_widestOfWay (of184 _) 0 34 rfl rfl
theorem dX2_widestOfWay_34 : decode cX2_widestOfWay 34 = .ok (.istore_n 1, 1) := dec_0 oX2_widestOfWay (of60 _) rfl
theorem dX2_widestOfWay_35 : decode cX2_widestOfWay 35 = .ok (.iinc 2 1, 3) := dec_ii oX2_widestOfWay (of132 _) 2 1 rfl (sg8p rfl) rfl
theorem dX2_widestOfWay_38 : decode cX2_widestOfWay 38 = .ok (.goto (-34), 3) := dec_s2 oX2_widestOfWay (of167 _) 255 222 rfl (sg16n (k := 34) rfl) rfl
theorem dX2_widestOfWay_41 : decode cX2_widestOfWay 41 = .ok (.iload_n 1, 1) := dec_0 oX2_widestOfWay (of27 _) rfl
theorem dX2_widestOfWay_42 : decode cX2_widestOfWay 42 = .ok (.ireturn, 1) := dec_0 oX2_widestOfWay (of172 _) rfl
theorem dX2_stepsInBoth_0 : decode cX2_stepsInBoth 0 = .ok (.iconst 0, 1) := dec_0 oX2_stepsInBoth (of3 _) rfl
theorem dX2_stepsInBoth_1 : decode cX2_stepsInBoth 1 = .ok (.istore_n 1, 1) := dec_0 oX2_stepsInBoth (of60 _) rfl
theorem dX2_stepsInBoth_2 : decode cX2_stepsInBoth 2 = .ok (.iconst 1, 1) := dec_0 oX2_stepsInBoth (of4 _) rfl
theorem dX2_stepsInBoth_3 : decode cX2_stepsInBoth 3 = .ok (.istore_n 2, 1) := dec_0 oX2_stepsInBoth (of61 _) rfl
theorem dX2_stepsInBoth_4 : decode cX2_stepsInBoth 4 = .ok (.iload_n 2, 1) := dec_0 oX2_stepsInBoth (of28 _) rfl
theorem dX2_stepsInBoth_5 : decode cX2_stepsInBoth 5 = .ok (.aload_n 0, 1) := dec_0 oX2_stepsInBoth (of42 _) rfl
theorem dX2_stepsInBoth_6 : decode cX2_stepsInBoth 6 = .ok (.getfield 101, 3) := dec_2 oX2_stepsInBoth (of180 _) 0 101 rfl rfl
theorem dX2_stepsInBoth_9 : decode cX2_stepsInBoth 9 = .ok (.if_icmp .ge 30, 3) := dec_s2 oX2_stepsInBoth (of162 _) 0 30 rfl (sg16p rfl) rfl
theorem dX2_stepsInBoth_12 : decode cX2_stepsInBoth 12 = .ok (.aload_n 0, 1) := dec_0 oX2_stepsInBoth (of42 _) rfl
theorem dX2_stepsInBoth_13 : decode cX2_stepsInBoth 13 = .ok (.iload_n 2, 1) := dec_0 oX2_stepsInBoth (of28 _) rfl
theorem dX2_stepsInBoth_14 : decode cX2_stepsInBoth 14 = .ok (.invokevirtual 107, 3) := dec_2 oX2_stepsInBoth (of182 _) 0 107 rfl rfl
theorem dX2_stepsInBoth_17 : decode cX2_stepsInBoth 17 = .ok (.aload_n 0, 1) := dec_0 oX2_stepsInBoth (of42 _) rfl
theorem dX2_stepsInBoth_18 : decode cX2_stepsInBoth 18 = .ok (.iload_n 2, 1) := dec_0 oX2_stepsInBoth (of28 _) rfl
theorem dX2_stepsInBoth_19 : decode cX2_stepsInBoth 19 = .ok (.iconst 1, 1) := dec_0 oX2_stepsInBoth (of4 _) rfl
theorem dX2_stepsInBoth_20 : decode cX2_stepsInBoth 20 = .ok (.isub, 1) := dec_0 oX2_stepsInBoth (of100 _) rfl
theorem dX2_stepsInBoth_21 : decode cX2_stepsInBoth 21 = .ok (.invokevirtual 107, 3) := dec_2 oX2_stepsInBoth (of182 _) 0 107 rfl rfl
theorem dX2_stepsInBoth_24 : decode cX2_stepsInBoth 24 = .ok (.isub, 1) := dec_0 oX2_stepsInBoth (of100 _) rfl
theorem dX2_stepsInBoth_25 : decode cX2_stepsInBoth 25 = .ok (.bipush 101, 2) := dec_s1 oX2_stepsInBoth (of16 _) 101 rfl (sg8p rfl) rfl
theorem dX2_stepsInBoth_27 : decode cX2_stepsInBoth 27 = .ok (.if_icmp .ne 6, 3) := dec_s2 oX2_stepsInBoth (of160 _) 0 6 rfl (sg16p rfl) rfl
theorem dX2_stepsInBoth_30 : decode cX2_stepsInBoth 30 = .ok (.iinc 1 1, 3) := dec_ii oX2_stepsInBoth (of132 _) 1 1 rfl (sg8p rfl) rfl
theorem dX2_stepsInBoth_33 : decode cX2_stepsInBoth 33 = .ok (.iinc 2 1, 3) := dec_ii oX2_stepsInBoth (of132 _) 2 1 rfl (sg8p rfl) rfl
theorem dX2_stepsInBoth_36 : decode cX2_stepsInBoth 36 = .ok (.goto (-32), 3) := dec_s2 oX2_stepsInBoth (of167 _) 255 224 rfl (sg16n (k := 32) rfl) rfl
theorem dX2_stepsInBoth_39 : decode cX2_stepsInBoth 39 = .ok (.iload_n 1, 1) := dec_0 oX2_stepsInBoth (of27 _) rfl
theorem dX2_stepsInBoth_40 : decode cX2_stepsInBoth 40 = .ok (.ireturn, 1) := dec_0 oX2_stepsInBoth (of172 _) rfl
theorem dX3_note_16 : decode cX3_note 16 = .ok (.return_, 1) := dec_0 oX3_note (of177 _) rfl
theorem dX3_note_57 : decode cX3_note 57 = .ok (.iconst 0, 1) := dec_0 oX3_note (of3 _) rfl
theorem dX3_note_58 : decode cX3_note 58 = .ok (.goto 9, 3) := dec_s2 oX3_note (of167 _) 0 9 rfl (sg16p rfl) rfl
theorem dX3_stepBack_10 : decode cX3_stepBack 10 = .ok (.aload_n 0, 1) := dec_0 oX3_stepBack (of42 _) rfl
theorem dX3_stepBack_11 : decode cX3_stepBack 11 = .ok (.aload_n 0, 1) := dec_0 oX3_stepBack (of42 _) rfl
theorem dX3_stepBack_12 : decode cX3_stepBack 12 = .ok (.getfield 23, 3) := dec_2 oX3_stepBack (of180 _) 0 23 rfl rfl
theorem dX3_stepBack_15 : decode cX3_stepBack 15 = .ok (.ifCond .ne 8, 3) := dec_s2 oX3_stepBack (of154 _) 0 8 rfl (sg16p rfl) rfl
theorem dX3_stepBack_18 : decode cX3_stepBack 18 = .ok (.bipush 39, 2) := dec_s1 oX3_stepBack (of16 _) 39 rfl (sg8p rfl) rfl
theorem dX3_stepBack_20 : decode cX3_stepBack 20 = .ok (.goto 9, 3) := dec_s2 oX3_stepBack (of167 _) 0 9 rfl (sg16p rfl) rfl
theorem dX3_stepBack_23 : decode cX3_stepBack 23 = .ok (.aload_n 0, 1) := dec_0 oX3_stepBack (of42 _) rfl
theorem dX3_stepBack_24 : decode cX3_stepBack 24 = .ok (.getfield 23, 3) := dec_2 oX3_stepBack (of180 _) 0 23 rfl rfl
theorem dX3_stepBack_27 : decode cX3_stepBack 27 = .ok (.iconst 1, 1) := dec_0 oX3_stepBack (of4 _) rfl
theorem dX3_stepBack_28 : decode cX3_stepBack 28 = .ok (.isub, 1) := dec_0 oX3_stepBack (of100 _) rfl
theorem dX3_stepBack_29 : decode cX3_stepBack 29 = .ok (.putfield 23, 3) := dec_2 oX3_stepBack (of181 _) 0 23 rfl rfl
theorem dX3_stepBack_32 : decode cX3_stepBack 32 = .ok (.aload_n 0, 1) := dec_0 oX3_stepBack (of42 _) rfl
theorem dX3_stepBack_33 : decode cX3_stepBack 33 = .ok (.dup, 1) := dec_0 oX3_stepBack (of89 _) rfl
theorem dX3_stepBack_34 : decode cX3_stepBack 34 = .ok (.getfield 19, 3) := dec_2 oX3_stepBack (of180 _) 0 19 rfl rfl
theorem dX3_stepBack_37 : decode cX3_stepBack 37 = .ok (.iconst 1, 1) := dec_0 oX3_stepBack (of4 _) rfl
theorem dX3_stepBack_38 : decode cX3_stepBack 38 = .ok (.isub, 1) := dec_0 oX3_stepBack (of100 _) rfl
theorem dX3_stepBack_39 : decode cX3_stepBack 39 = .ok (.putfield 19, 3) := dec_2 oX3_stepBack (of181 _) 0 19 rfl rfl
theorem dX3_stepBack_42 : decode cX3_stepBack 42 = .ok (.iconst 1, 1) := dec_0 oX3_stepBack (of4 _) rfl
theorem dX3_stepBack_43 : decode cX3_stepBack 43 = .ok (.ireturn, 1) := dec_0 oX3_stepBack (of172 _) rfl
theorem dX3_valueIn_0 : decode cX3_valueIn 0 = .ok (.iload_n 1, 1) := dec_0 oX3_valueIn (of27 _) rfl
theorem dX3_valueIn_1 : decode cX3_valueIn 1 = .ok (.ifCond .lt 15, 3) := dec_s2 oX3_valueIn (of155 _) 0 15 rfl (sg16p rfl) rfl
theorem dX3_valueIn_4 : decode cX3_valueIn 4 = .ok (.iload_n 1, 1) := dec_0 oX3_valueIn (of27 _) rfl
theorem dX3_valueIn_5 : decode cX3_valueIn 5 = .ok (.aload_n 0, 1) := dec_0 oX3_valueIn (of42 _) rfl
theorem dX3_valueIn_6 : decode cX3_valueIn 6 = .ok (.arraylength, 1) := dec_0 oX3_valueIn (of190 _) rfl
theorem dX3_valueIn_7 : decode cX3_valueIn 7 = .ok (.if_icmp .ge 9, 3) := dec_s2 oX3_valueIn (of162 _) 0 9 rfl (sg16p rfl) rfl
theorem dX3_valueIn_10 : decode cX3_valueIn 10 = .ok (.aload_n 0, 1) := dec_0 oX3_valueIn (of42 _) rfl
theorem dX3_valueIn_11 : decode cX3_valueIn 11 = .ok (.iload_n 1, 1) := dec_0 oX3_valueIn (of27 _) rfl
theorem dX3_valueIn_12 : decode cX3_valueIn 12 = .ok (.iaload, 1) := dec_0 oX3_valueIn (of46 _) rfl
theorem dX3_valueIn_13 : decode cX3_valueIn 13 = .ok (.goto 4, 3) := dec_s2 oX3_valueIn (of167 _) 0 4 rfl (sg16p rfl) rfl
theorem dX3_valueIn_16 : decode cX3_valueIn 16 = .ok (.iconst 0, 1) := dec_0 oX3_valueIn (of3 _) rfl
theorem dX3_valueIn_17 : decode cX3_valueIn 17 = .ok (.ireturn, 1) := dec_0 oX3_valueIn (of172 _) rfl
theorem dX3_kindOfStep_0 : decode cX3_kindOfStep 0 = .ok (.aload_n 0, 1) := dec_0 oX3_kindOfStep (of42 _) rfl
theorem dX3_kindOfStep_1 : decode cX3_kindOfStep 1 = .ok (.getfield 9, 3) := dec_2 oX3_kindOfStep (of180 _) 0 9 rfl rfl
theorem dX3_kindOfStep_4 : decode cX3_kindOfStep 4 = .ok (.aload_n 0, 1) := dec_0 oX3_kindOfStep (of42 _) rfl
theorem dX3_kindOfStep_5 : decode cX3_kindOfStep 5 = .ok (.getfield 23, 3) := dec_2 oX3_kindOfStep (of180 _) 0 23 rfl rfl
theorem dX3_kindOfStep_8 : decode cX3_kindOfStep 8 = .ok (.invokestatic 32, 3) := dec_2 oX3_kindOfStep (of184 _) 0 32 rfl rfl
theorem dX3_kindOfStep_11 : decode cX3_kindOfStep 11 = .ok (.ireturn, 1) := dec_0 oX3_kindOfStep (of172 _) rfl
theorem dX3_firstOfStep_0 : decode cX3_firstOfStep 0 = .ok (.aload_n 0, 1) := dec_0 oX3_firstOfStep (of42 _) rfl
theorem dX3_firstOfStep_1 : decode cX3_firstOfStep 1 = .ok (.getfield 13, 3) := dec_2 oX3_firstOfStep (of180 _) 0 13 rfl rfl
theorem dX3_firstOfStep_4 : decode cX3_firstOfStep 4 = .ok (.aload_n 0, 1) := dec_0 oX3_firstOfStep (of42 _) rfl
theorem dX3_firstOfStep_5 : decode cX3_firstOfStep 5 = .ok (.getfield 23, 3) := dec_2 oX3_firstOfStep (of180 _) 0 23 rfl rfl
theorem dX3_firstOfStep_8 : decode cX3_firstOfStep 8 = .ok (.invokestatic 32, 3) := dec_2 oX3_firstOfStep (of184 _) 0 32 rfl rfl
theorem dX3_firstOfStep_11 : decode cX3_firstOfStep 11 = .ok (.ireturn, 1) := dec_0 oX3_firstOfStep (of172 _) rfl
theorem dX3_secondOfStep_0 : decode cX3_secondOfStep 0 = .ok (.aload_n 0, 1) := dec_0 oX3_secondOfStep (of42 _) rfl
theorem dX3_secondOfStep_1 : decode cX3_secondOfStep 1 = .ok (.getfield 16, 3) := dec_2 oX3_secondOfStep (of180 _) 0 16 rfl rfl
theorem dX3_secondOfStep_4 : decode cX3_secondOfStep 4 = .ok (.aload_n 0, 1) := dec_0 oX3_secondOfStep (of42 _) rfl
theorem dX3_secondOfStep_5 : decode cX3_secondOfStep 5 = .ok (.getfield 23, 3) := dec_2 oX3_secondOfStep (of180 _) 0 23 rfl rfl
theorem dX3_secondOfStep_8 : decode cX3_secondOfStep 8 = .ok (.invokestatic 32, 3) := dec_2 oX3_secondOfStep (of184 _) 0 32 rfl rfl
theorem dX3_secondOfStep_11 : decode cX3_secondOfStep 11 = .ok (.ireturn, 1) := dec_0 oX3_secondOfStep (of172 _) rfl
theorem dX4_has_12 : decode cX4_has 12 = .ok (.iload_n 1, 1) := dec_0 oX4_has (of27 _) rfl
theorem dX4_has_13 : decode cX4_has 13 = .ok (.iconst 5, 1) := dec_0 oX4_has (of8 _) rfl
theorem dX4_has_14 : decode cX4_has 14 = .ok (.if_icmp .ge 7, 3) := dec_s2 oX4_has (of162 _) 0 7 rfl (sg16p rfl) rfl
theorem dX4_has_17 : decode cX4_has 17 = .ok (.iconst 1, 1) := dec_0 oX4_has (of4 _) rfl
theorem dX4_has_18 : decode cX4_has 18 = .ok (.goto 4, 3) := dec_s2 oX4_has (of167 _) 0 4 rfl (sg16p rfl) rfl
theorem dX4_lengthOf_8 : decode cX4_lengthOf 8 = .ok (.aload_n 0, 1) := dec_0 oX4_lengthOf (of42 _) rfl
theorem dX4_lengthOf_9 : decode cX4_lengthOf 9 = .ok (.getfield 15, 3) := dec_2 oX4_lengthOf (of180 _) 0 15 rfl rfl
theorem dX4_lengthOf_12 : decode cX4_lengthOf 12 = .ok (.iload_n 1, 1) := dec_0 oX4_lengthOf (of27 _) rfl
theorem dX4_lengthOf_13 : decode cX4_lengthOf 13 = .ok (.iaload, 1) := dec_0 oX4_lengthOf (of46 _) rfl
theorem dX4_lengthOf_14 : decode cX4_lengthOf 14 = .ok (.goto 4, 3) := dec_s2 oX4_lengthOf (of167 _) 0 4 rfl (sg16p rfl) rfl
theorem dX4_valueAt_19 : decode cX4_valueAt 19 = .ok (.aload_n 0, 1) := dec_0 oX4_valueAt (of42 _) rfl
theorem dX4_valueAt_20 : decode cX4_valueAt 20 = .ok (.getfield 9, 3) := dec_2 oX4_valueAt (of180 _) 0 9 rfl rfl
theorem dX4_valueAt_23 : decode cX4_valueAt 23 = .ok (.iload_n 1, 1) := dec_0 oX4_valueAt (of27 _) rfl
theorem dX4_valueAt_24 : decode cX4_valueAt 24 = .ok (.bipush 16, 2) := dec_s1 oX4_valueAt (of16 _) 16 rfl (sg8p rfl) rfl
theorem dX4_valueAt_26 : decode cX4_valueAt 26 = .ok (.imul, 1) := dec_0 oX4_valueAt (of104 _) rfl
theorem dX4_valueAt_27 : decode cX4_valueAt 27 = .ok (.iload_n 2, 1) := dec_0 oX4_valueAt (of28 _) rfl
theorem dX4_valueAt_28 : decode cX4_valueAt 28 = .ok (.iadd, 1) := dec_0 oX4_valueAt (of96 _) rfl
theorem dX4_valueAt_29 : decode cX4_valueAt 29 = .ok (.iaload, 1) := dec_0 oX4_valueAt (of46 _) rfl
theorem dX4_valueAt_30 : decode cX4_valueAt 30 = .ok (.goto 6, 3) := dec_s2 oX4_valueAt (of167 _) 0 6 rfl (sg16p rfl) rfl
theorem dX4_open_0 : decode cX4_open 0 = .ok (.aload_n 0, 1) := dec_0 oX4_open (of42 _) rfl
theorem dX4_open_1 : decode cX4_open 1 = .ok (.getfield 18, 3) := dec_2 oX4_open (of180 _) 0 18 rfl rfl
theorem dX4_open_4 : decode cX4_open 4 = .ok (.ifCond .lt 31, 3) := dec_s2 oX4_open (of155 _) 0 31 rfl (sg16p rfl) rfl
theorem dX4_open_7 : decode cX4_open 7 = .ok (.aload_n 0, 1) := dec_0 oX4_open (of42 _) rfl
theorem dX4_open_8 : decode cX4_open 8 = .ok (.getfield 18, 3) := dec_2 oX4_open (of180 _) 0 18 rfl rfl
theorem dX4_open_11 : decode cX4_open 11 = .ok (.iconst 5, 1) := dec_0 oX4_open (of8 _) rfl
theorem dX4_open_12 : decode cX4_open 12 = .ok (.if_icmp .ge 23, 3) := dec_s2 oX4_open (of162 _) 0 23 rfl (sg16p rfl) rfl
theorem dX4_open_15 : decode cX4_open 15 = .ok (.aload_n 0, 1) := dec_0 oX4_open (of42 _) rfl
theorem dX4_open_16 : decode cX4_open 16 = .ok (.getfield 15, 3) := dec_2 oX4_open (of180 _) 0 15 rfl rfl
theorem dX4_open_19 : decode cX4_open 19 = .ok (.aload_n 0, 1) := dec_0 oX4_open (of42 _) rfl
theorem dX4_open_20 : decode cX4_open 20 = .ok (.getfield 18, 3) := dec_2 oX4_open (of180 _) 0 18 rfl rfl
theorem dX4_open_23 : decode cX4_open 23 = .ok (.iconst 0, 1) := dec_0 oX4_open (of3 _) rfl
theorem dX4_open_24 : decode cX4_open 24 = .ok (.iastore, 1) := dec_0 oX4_open (of79 _) rfl
theorem dX4_open_25 : decode cX4_open 25 = .ok (.aload_n 0, 1) := dec_0 oX4_open (of42 _) rfl
theorem dX4_open_26 : decode cX4_open 26 = .ok (.dup, 1) := dec_0 oX4_open (of89 _) rfl
theorem dX4_open_27 : decode cX4_open 27 = .ok (.getfield 18, 3) := dec_2 oX4_open (of180 _) 0 18 rfl rfl
theorem dX4_open_30 : decode cX4_open 30 = .ok (.iconst 1, 1) := dec_0 oX4_open (of4 _) rfl
theorem dX4_open_31 : decode cX4_open 31 = .ok (.iadd, 1) := dec_0 oX4_open (of96 _) rfl
theorem dX4_open_32 : decode cX4_open 32 = .ok (.putfield 18, 3) := dec_2 oX4_open (of181 _) 0 18 rfl rfl
theorem dX4_open_35 : decode cX4_open 35 = .ok (.return_, 1) := dec_0 oX4_open (of177 _) rfl
theorem dX4_append_0 : decode cX4_append 0 = .ok (.aload_n 0, 1) := dec_0 oX4_append (of42 _) rfl
theorem dX4_append_1 : decode cX4_append 1 = .ok (.getfield 18, 3) := dec_2 oX4_append (of180 _) 0 18 rfl rfl
theorem dX4_append_4 : decode cX4_append 4 = .ok (.iconst 1, 1) := dec_0 oX4_append (of4 _) rfl
theorem dX4_append_5 : decode cX4_append 5 = .ok (.isub, 1) := dec_0 oX4_append (of100 _) rfl
theorem dX4_append_6 : decode cX4_append 6 = .ok (.istore_n 2, 1) := dec_0 oX4_append (of61 _) rfl
theorem dX4_append_7 : decode cX4_append 7 = .ok (.aload_n 0, 1) := dec_0 oX4_append (of42 _) rfl
theorem dX4_append_8 : decode cX4_append 8 = .ok (.iload_n 2, 1) := dec_0 oX4_append (of28 _) rfl
theorem dX4_append_9 : decode cX4_append 9 = .ok (.invokevirtual 22, 3) := dec_2 oX4_append (of182 _) 0 22 rfl rfl
theorem dX4_append_12 : decode cX4_append 12 = .ok (.ifCond .eq 41, 3) := dec_s2 oX4_append (of153 _) 0 41 rfl (sg16p rfl) rfl
theorem dX4_append_15 : decode cX4_append 15 = .ok (.aload_n 0, 1) := dec_0 oX4_append (of42 _) rfl
theorem dX4_append_16 : decode cX4_append 16 = .ok (.getfield 15, 3) := dec_2 oX4_append (of180 _) 0 15 rfl rfl
theorem dX4_append_19 : decode cX4_append 19 = .ok (.iload_n 2, 1) := dec_0 oX4_append (of28 _) rfl
theorem dX4_append_20 : decode cX4_append 20 = .ok (.iaload, 1) := dec_0 oX4_append (of46 _) rfl
theorem dX4_append_21 : decode cX4_append 21 = .ok (.bipush 16, 2) := dec_s1 oX4_append (of16 _) 16 rfl (sg8p rfl) rfl
theorem dX4_append_23 : decode cX4_append 23 = .ok (.if_icmp .ge 30, 3) := dec_s2 oX4_append (of162 _) 0 30 rfl (sg16p rfl) rfl
theorem dX4_append_26 : decode cX4_append 26 = .ok (.aload_n 0, 1) := dec_0 oX4_append (of42 _) rfl
theorem dX4_append_27 : decode cX4_append 27 = .ok (.getfield 9, 3) := dec_2 oX4_append (of180 _) 0 9 rfl rfl
theorem dX4_append_30 : decode cX4_append 30 = .ok (.iload_n 2, 1) := dec_0 oX4_append (of28 _) rfl
theorem dX4_append_31 : decode cX4_append 31 = .ok (.bipush 16, 2) := dec_s1 oX4_append (of16 _) 16 rfl (sg8p rfl) rfl
theorem dX4_append_33 : decode cX4_append 33 = .ok (.imul, 1) := dec_0 oX4_append (of104 _) rfl
theorem dX4_append_34 : decode cX4_append 34 = .ok (.aload_n 0, 1) := dec_0 oX4_append (of42 _) rfl
theorem dX4_append_35 : decode cX4_append 35 = .ok (.getfield 15, 3) := dec_2 oX4_append (of180 _) 0 15 rfl rfl
theorem dX4_append_38 : decode cX4_append 38 = .ok (.iload_n 2, 1) := dec_0 oX4_append (of28 _) rfl
theorem dX4_append_39 : decode cX4_append 39 = .ok (.iaload, 1) := dec_0 oX4_append (of46 _) rfl
theorem dX4_append_40 : decode cX4_append 40 = .ok (.iadd, 1) := dec_0 oX4_append (of96 _) rfl
theorem dX4_append_41 : decode cX4_append 41 = .ok (.iload_n 1, 1) := dec_0 oX4_append (of27 _) rfl
theorem dX4_append_42 : decode cX4_append 42 = .ok (.iastore, 1) := dec_0 oX4_append (of79 _) rfl
theorem dX4_append_43 : decode cX4_append 43 = .ok (.aload_n 0, 1) := dec_0 oX4_append (of42 _) rfl
theorem dX4_append_44 : decode cX4_append 44 = .ok (.getfield 15, 3) := dec_2 oX4_append (of180 _) 0 15 rfl rfl
theorem dX4_append_47 : decode cX4_append 47 = .ok (.iload_n 2, 1) := dec_0 oX4_append (of28 _) rfl
theorem dX4_append_48 : decode cX4_append 48 = .ok (.dup2, 1) := dec_0 oX4_append (of92 _) rfl
theorem dX4_append_49 : decode cX4_append 49 = .ok (.iaload, 1) := dec_0 oX4_append (of46 _) rfl
theorem dX4_append_50 : decode cX4_append 50 = .ok (.iconst 1, 1) := dec_0 oX4_append (of4 _) rfl
theorem dX4_append_51 : decode cX4_append 51 = .ok (.iadd, 1) := dec_0 oX4_append (of96 _) rfl
theorem dX4_append_52 : decode cX4_append 52 = .ok (.iastore, 1) := dec_0 oX4_append (of79 _) rfl
theorem dX4_append_53 : decode cX4_append 53 = .ok (.return_, 1) := dec_0 oX4_append (of177 _) rfl
theorem dX4_takeFrom_15 : decode cX4_takeFrom 15 = .ok (.aload_n 0, 1) := dec_0 oX4_takeFrom (of42 _) rfl
theorem dX4_takeFrom_16 : decode cX4_takeFrom 16 = .ok (.invokevirtual 30, 3) := dec_2 oX4_takeFrom (of182 _) 0 30 rfl rfl
theorem dX4_takeFrom_19 : decode cX4_takeFrom 19 = .ok (.iconst 0, 1) := dec_0 oX4_takeFrom (of3 _) rfl
theorem dX4_takeFrom_20 : decode cX4_takeFrom 20 = .ok (.istore_n 3, 1) := dec_0 oX4_takeFrom (of62 _) rfl
theorem dX4_takeFrom_21 : decode cX4_takeFrom 21 = .ok (.iload_n 3, 1) := dec_0 oX4_takeFrom (of29 _) rfl
theorem dX4_takeFrom_22 : decode cX4_takeFrom 22 = .ok (.aload_n 1, 1) := dec_0 oX4_takeFrom (of43 _) rfl
theorem dX4_takeFrom_23 : decode cX4_takeFrom 23 = .ok (.iload_n 2, 1) := dec_0 oX4_takeFrom (of28 _) rfl
theorem dX4_takeFrom_24 : decode cX4_takeFrom 24 = .ok (.invokevirtual 26, 3) := dec_2 oX4_takeFrom (of182 _) 0 26 rfl rfl
theorem dX4_takeFrom_27 : decode cX4_takeFrom 27 = .ok (.if_icmp .ge 19, 3) := dec_s2 oX4_takeFrom (of162 _) 0 19 rfl (sg16p rfl) rfl
theorem dX4_takeFrom_30 : decode cX4_takeFrom 30 = .ok (.aload_n 0, 1) := dec_0 oX4_takeFrom (of42 _) rfl
theorem dX4_takeFrom_31 : decode cX4_takeFrom 31 = .ok (.aload_n 1, 1) := dec_0 oX4_takeFrom (of43 _) rfl
theorem dX4_takeFrom_32 : decode cX4_takeFrom 32 = .ok (.iload_n 2, 1) := dec_0 oX4_takeFrom (of28 _) rfl
theorem dX4_takeFrom_33 : decode cX4_takeFrom 33 = .ok (.iload_n 3, 1) := dec_0 oX4_takeFrom (of29 _) rfl
theorem dX4_takeFrom_34 : decode cX4_takeFrom 34 = .ok (.invokevirtual 33, 3) := dec_2 oX4_takeFrom (of182 _) 0 33 rfl rfl
theorem dX4_takeFrom_37 : decode cX4_takeFrom 37 = .ok (.invokevirtual 37, 3) := dec_2 oX4_takeFrom (of182 _) 0 37 rfl rfl
theorem dX4_takeFrom_40 : decode cX4_takeFrom 40 = .ok (.iinc 3 1, 3) := dec_ii oX4_takeFrom (of132 _) 3 1 rfl (sg8p rfl) rfl
theorem dX4_takeFrom_43 : decode cX4_takeFrom 43 = .ok (.goto (-22), 3) := dec_s2 oX4_takeFrom (of167 _) 255 234 rfl (sg16n (k := 22) rfl) rfl
theorem dX4_takeFrom_46 : decode cX4_takeFrom 46 = .ok (.iinc 2 1, 3) := dec_ii oX4_takeFrom (of132 _) 2 1 rfl (sg8p rfl) rfl
theorem dX4_takeFrom_49 : decode cX4_takeFrom 49 = .ok (.goto (-42), 3) := dec_s2 oX4_takeFrom (of167 _) 255 214 rfl (sg16n (k := 42) rfl) rfl
theorem dX4_copyQuery_0 : decode cX4_copyQuery 0 = .ok (.iconst 0, 1) := dec_0 oX4_copyQuery (of3 _) rfl
theorem dX4_copyQuery_1 : decode cX4_copyQuery 1 = .ok (.istore_n 3, 1) := dec_0 oX4_copyQuery (of62 _) rfl
theorem dX4_copyQuery_2 : decode cX4_copyQuery 2 = .ok (.iload_n 3, 1) := dec_0 oX4_copyQuery (of29 _) rfl
theorem dX4_copyQuery_3 : decode cX4_copyQuery 3 = .ok (.aload_n 0, 1) := dec_0 oX4_copyQuery (of42 _) rfl
theorem dX4_copyQuery_4 : decode cX4_copyQuery 4 = .ok (.iload_n 1, 1) := dec_0 oX4_copyQuery (of27 _) rfl
theorem dX4_copyQuery_5 : decode cX4_copyQuery 5 = .ok (.invokevirtual 26, 3) := dec_2 oX4_copyQuery (of182 _) 0 26 rfl rfl
theorem dX4_copyQuery_8 : decode cX4_copyQuery 8 = .ok (.if_icmp .ge 24, 3) := dec_s2 oX4_copyQuery (of162 _) 0 24 rfl (sg16p rfl) rfl
theorem dX4_copyQuery_11 : decode cX4_copyQuery 11 = .ok (.iload_n 3, 1) := dec_0 oX4_copyQuery (of29 _) rfl
theorem dX4_copyQuery_12 : decode cX4_copyQuery 12 = .ok (.aload_n 2, 1) := dec_0 oX4_copyQuery (of44 _) rfl
theorem dX4_copyQuery_13 : decode cX4_copyQuery 13 = .ok (.arraylength, 1) := dec_0 oX4_copyQuery (of190 _) rfl
theorem dX4_copyQuery_14 : decode cX4_copyQuery 14 = .ok (.if_icmp .ge 18, 3) := dec_s2 oX4_copyQuery (of162 _) 0 18 rfl (sg16p rfl) rfl
theorem dX4_copyQuery_17 : decode cX4_copyQuery 17 = .ok (.aload_n 2, 1) := dec_0 oX4_copyQuery (of44 _) rfl
theorem dX4_copyQuery_18 : decode cX4_copyQuery 18 = .ok (.iload_n 3, 1) := dec_0 oX4_copyQuery (of29 _) rfl
theorem dX4_copyQuery_19 : decode cX4_copyQuery 19 = .ok (.aload_n 0, 1) := dec_0 oX4_copyQuery (of42 _) rfl
theorem dX4_copyQuery_20 : decode cX4_copyQuery 20 = .ok (.iload_n 1, 1) := dec_0 oX4_copyQuery (of27 _) rfl
theorem dX4_copyQuery_21 : decode cX4_copyQuery 21 = .ok (.iload_n 3, 1) := dec_0 oX4_copyQuery (of29 _) rfl
theorem dX4_copyQuery_22 : decode cX4_copyQuery 22 = .ok (.invokevirtual 33, 3) := dec_2 oX4_copyQuery (of182 _) 0 33 rfl rfl
theorem dX4_copyQuery_25 : decode cX4_copyQuery 25 = .ok (.iastore, 1) := dec_0 oX4_copyQuery (of79 _) rfl
theorem dX4_copyQuery_26 : decode cX4_copyQuery 26 = .ok (.iinc 3 1, 3) := dec_ii oX4_copyQuery (of132 _) 3 1 rfl (sg8p rfl) rfl
theorem dX4_copyQuery_29 : decode cX4_copyQuery 29 = .ok (.goto (-27), 3) := dec_s2 oX4_copyQuery (of167 _) 255 229 rfl (sg16n (k := 27) rfl) rfl
theorem dX4_copyQuery_32 : decode cX4_copyQuery 32 = .ok (.return_, 1) := dec_0 oX4_copyQuery (of177 _) rfl
theorem dX5_readText_30 : decode cX5_readText 30 = .ok (.aload_n 0, 1) := dec_0 oX5_readText (of42 _) rfl
theorem dX5_readText_31 : decode cX5_readText 31 = .ok (.invokevirtual 58, 3) := dec_2 oX5_readText (of182 _) 0 58 rfl rfl
theorem dX5_readText_34 : decode cX5_readText 34 = .ok (.ifCond .ne 11, 3) := dec_s2 oX5_readText (of154 _) 0 11 rfl (sg16p rfl) rfl
theorem dX5_readText_37 : decode cX5_readText 37 = .ok (.aload_n 0, 1) := dec_0 oX5_readText (of42 _) rfl
theorem dX5_readText_38 : decode cX5_readText 38 = .ok (.iconst 1, 1) := dec_0 oX5_readText (of4 _) rfl
theorem dX5_readText_39 : decode cX5_readText 39 = .ok (.invokevirtual 62, 3) := dec_2 oX5_readText (of182 _) 0 62 rfl rfl
theorem dX5_readText_42 : decode cX5_readText 42 = .ok (.goto 29, 3) := dec_s2 oX5_readText (of167 _) 0 29 rfl (sg16p rfl) rfl
theorem dX5_readText_45 : decode cX5_readText 45 = .ok (.aload_n 0, 1) := dec_0 oX5_readText (of42 _) rfl
theorem dX5_readText_46 : decode cX5_readText 46 = .ok (.invokevirtual 66, 3) := dec_2 oX5_readText (of182 _) 0 66 rfl rfl
theorem dX5_readText_49 : decode cX5_readText 49 = .ok (.ifCond .ne 11, 3) := dec_s2 oX5_readText (of154 _) 0 11 rfl (sg16p rfl) rfl
theorem dX5_readText_52 : decode cX5_readText 52 = .ok (.aload_n 0, 1) := dec_0 oX5_readText (of42 _) rfl
theorem dX5_readText_53 : decode cX5_readText 53 = .ok (.iconst 2, 1) := dec_0 oX5_readText (of5 _) rfl
theorem dX5_readText_54 : decode cX5_readText 54 = .ok (.invokevirtual 62, 3) := dec_2 oX5_readText (of182 _) 0 62 rfl rfl
theorem dX5_readText_57 : decode cX5_readText 57 = .ok (.goto 14, 3) := dec_s2 oX5_readText (of167 _) 0 14 rfl (sg16p rfl) rfl
theorem dX5_readText_60 : decode cX5_readText 60 = .ok (.aload_n 0, 1) := dec_0 oX5_readText (of42 _) rfl
theorem dX5_readText_61 : decode cX5_readText 61 = .ok (.invokevirtual 69, 3) := dec_2 oX5_readText (of182 _) 0 69 rfl rfl
theorem dX5_readText_64 : decode cX5_readText 64 = .ok (.aload_n 0, 1) := dec_0 oX5_readText (of42 _) rfl
theorem dX5_readText_65 : decode cX5_readText 65 = .ok (.getfield 42, 3) := dec_2 oX5_readText (of180 _) 0 42 rfl rfl
theorem dX5_readText_68 : decode cX5_readText 68 = .ok (.invokevirtual 72, 3) := dec_2 oX5_readText (of182 _) 0 72 rfl rfl
theorem dX5_readText_71 : decode cX5_readText 71 = .ok (.iinc 1 1, 3) := dec_ii oX5_readText (of132 _) 1 1 rfl (sg8p rfl) rfl
theorem dX5_readText_74 : decode cX5_readText 74 = .ok (.goto (-68), 3) := dec_s2 oX5_readText (of167 _) 255 188 rfl (sg16n (k := 68) rfl) rfl
theorem dX5_readText_91 : decode cX5_readText 91 = .ok (.aload_n 0, 1) := dec_0 oX5_readText (of42 _) rfl
theorem dX5_readText_92 : decode cX5_readText 92 = .ok (.iconst 1, 1) := dec_0 oX5_readText (of4 _) rfl
theorem dX5_readText_93 : decode cX5_readText 93 = .ok (.invokevirtual 62, 3) := dec_2 oX5_readText (of182 _) 0 62 rfl rfl
theorem dX5_stop_0 : decode cX5_stop 0 = .ok (.aload_n 0, 1) := dec_0 oX5_stop (of42 _) rfl
theorem dX5_stop_1 : decode cX5_stop 1 = .ok (.iconst 1, 1) := dec_0 oX5_stop (of4 _) rfl
theorem dX5_stop_2 : decode cX5_stop 2 = .ok (.putfield 49, 3) := dec_2 oX5_stop (of181 _) 0 49 rfl rfl
theorem dX5_stop_5 : decode cX5_stop 5 = .ok (.aload_n 0, 1) := dec_0 oX5_stop (of42 _) rfl
theorem dX5_stop_6 : decode cX5_stop 6 = .ok (.iload_n 1, 1) := dec_0 oX5_stop (of27 _) rfl
theorem dX5_stop_7 : decode cX5_stop 7 = .ok (.invokevirtual 93, 3) := dec_2 oX5_stop (of182 _) 0 93 rfl rfl
theorem dX5_stop_10 : decode cX5_stop 10 = .ok (.return_, 1) := dec_0 oX5_stop (of177 _) rfl
theorem dX5_mark_0 : decode cX5_mark 0 = .ok (.aload_n 0, 1) := dec_0 oX5_mark (of42 _) rfl
theorem dX5_mark_1 : decode cX5_mark 1 = .ok (.getfield 78, 3) := dec_2 oX5_mark (of180 _) 0 78 rfl rfl
theorem dX5_mark_4 : decode cX5_mark 4 = .ok (.ifCond .ne 8, 3) := dec_s2 oX5_mark (of154 _) 0 8 rfl (sg16p rfl) rfl
theorem dX5_mark_7 : decode cX5_mark 7 = .ok (.aload_n 0, 1) := dec_0 oX5_mark (of42 _) rfl
theorem dX5_mark_8 : decode cX5_mark 8 = .ok (.iload_n 1, 1) := dec_0 oX5_mark (of27 _) rfl
theorem dX5_mark_9 : decode cX5_mark 9 = .ok (.invokevirtual 93, 3) := dec_2 oX5_mark (of182 _) 0 93 rfl rfl
theorem dX5_mark_12 : decode cX5_mark 12 = .ok (.return_, 1) := dec_0 oX5_mark (of177 _) rfl
theorem dX5_keepFault_0 : decode cX5_keepFault 0 = .ok (.aload_n 0, 1) := dec_0 oX5_keepFault (of42 _) rfl
theorem dX5_keepFault_1 : decode cX5_keepFault 1 = .ok (.iload_n 1, 1) := dec_0 oX5_keepFault (of27 _) rfl
theorem dX5_keepFault_2 : decode cX5_keepFault 2 = .ok (.putfield 78, 3) := dec_2 oX5_keepFault (of181 _) 0 78 rfl rfl
theorem dX5_keepFault_5 : decode cX5_keepFault 5 = .ok (.aload_n 0, 1) := dec_0 oX5_keepFault (of42 _) rfl
theorem dX5_keepFault_6 : decode cX5_keepFault 6 = .ok (.aload_n 0, 1) := dec_0 oX5_keepFault (of42 _) rfl
theorem dX5_keepFault_7 : decode cX5_keepFault 7 = .ok (.getfield 42, 3) := dec_2 oX5_keepFault (of180 _) 0 42 rfl rfl
theorem dX5_keepFault_10 : decode cX5_keepFault 10 = .ok (.getfield 96, 3) := dec_2 oX5_keepFault (of180 _) 0 96 rfl rfl
theorem dX5_keepFault_13 : decode cX5_keepFault 13 = .ok (.putfield 36, 3) := dec_2 oX5_keepFault (of181 _) 0 36 rfl rfl
theorem dX5_keepFault_16 : decode cX5_keepFault 16 = .ok (.aload_n 0, 1) := dec_0 oX5_keepFault (of42 _) rfl
theorem dX5_keepFault_17 : decode cX5_keepFault 17 = .ok (.aload_n 0, 1) := dec_0 oX5_keepFault (of42 _) rfl
theorem dX5_keepFault_18 : decode cX5_keepFault 18 = .ok (.getfield 32, 3) := dec_2 oX5_keepFault (of180 _) 0 32 rfl rfl
theorem dX5_keepFault_21 : decode cX5_keepFault 21 = .ok (.putfield 39, 3) := dec_2 oX5_keepFault (of181 _) 0 39 rfl rfl
theorem dX5_keepFault_24 : decode cX5_keepFault 24 = .ok (.return_, 1) := dec_0 oX5_keepFault (of177 _) rfl
theorem dX5_mayStand_0 : decode cX5_mayStand 0 = .ok (.aload_n 0, 1) := dec_0 oX5_mayStand (of42 _) rfl
theorem dX5_mayStand_1 : decode cX5_mayStand 1 = .ok (.getfield 75, 3) := dec_2 oX5_mayStand (of180 _) 0 75 rfl rfl
theorem dX5_mayStand_4 : decode cX5_mayStand 4 = .ok (.tableswitch 125 0 5 #[40, 53, 90, 85, 95, 112], 40) := by decide +kernel
theorem dX5_mayStand_44 : decode cX5_mayStand 44 = .ok (.aload_n 0, 1) := dec_0 oX5_mayStand (of42 _) rfl
theorem dX5_mayStand_45 : decode cX5_mayStand 45 = .ok (.invokevirtual 99, 3) := dec_2 oX5_mayStand (of182 _) 0 99 rfl rfl
theorem dX5_mayStand_48 : decode cX5_mayStand 48 = .ok (.ifCond .lt 7, 3) := dec_s2 oX5_mayStand (of155 _) 0 7 rfl (sg16p rfl) rfl
theorem dX5_mayStand_51 : decode cX5_mayStand 51 = .ok (.iconst 1, 1) := dec_0 oX5_mayStand (of4 _) rfl
theorem dX5_mayStand_52 : decode cX5_mayStand 52 = .ok (.goto 4, 3) := dec_s2 oX5_mayStand (of167 _) 0 4 rfl (sg16p rfl) rfl
theorem dX5_mayStand_55 : decode cX5_mayStand 55 = .ok (.iconst 0, 1) := dec_0 oX5_mayStand (of3 _) rfl
theorem dX5_mayStand_56 : decode cX5_mayStand 56 = .ok (.ireturn, 1) := dec_0 oX5_mayStand (of172 _) rfl
theorem dX5_mayStand_57 : decode cX5_mayStand 57 = .ok (.aload_n 0, 1) := dec_0 oX5_mayStand (of42 _) rfl
theorem dX5_mayStand_58 : decode cX5_mayStand 58 = .ok (.invokevirtual 103, 3) := dec_2 oX5_mayStand (of182 _) 0 103 rfl rfl
theorem dX5_mayStand_61 : decode cX5_mayStand 61 = .ok (.ifCond .ne 22, 3) := dec_s2 oX5_mayStand (of154 _) 0 22 rfl (sg16p rfl) rfl
theorem dX5_mayStand_64 : decode cX5_mayStand 64 = .ok (.aload_n 0, 1) := dec_0 oX5_mayStand (of42 _) rfl
theorem dX5_mayStand_65 : decode cX5_mayStand 65 = .ok (.getfield 87, 3) := dec_2 oX5_mayStand (of180 _) 0 87 rfl rfl
theorem dX5_mayStand_68 : decode cX5_mayStand 68 = .ok (.ifCond .ne 19, 3) := dec_s2 oX5_mayStand (of154 _) 0 19 rfl (sg16p rfl) rfl
theorem dX5_mayStand_71 : decode cX5_mayStand 71 = .ok (.aload_n 0, 1) := dec_0 oX5_mayStand (of42 _) rfl
theorem dX5_mayStand_72 : decode cX5_mayStand 72 = .ok (.getfield 42, 3) := dec_2 oX5_mayStand (of180 _) 0 42 rfl rfl
theorem dX5_mayStand_75 : decode cX5_mayStand 75 = .ok (.ldc 106, 2) := dec_1 oX5_mayStand (of18 _) 106 rfl rfl
theorem dX5_mayStand_77 : decode cX5_mayStand 77 = .ok (.invokevirtual 108, 3) := dec_2 oX5_mayStand (of182 _) 0 108 rfl rfl
theorem dX5_mayStand_80 : decode cX5_mayStand 80 = .ok (.ifCond .eq 7, 3) := dec_s2 oX5_mayStand (of153 _) 0 7 rfl (sg16p rfl) rfl
theorem dX5_mayStand_83 : decode cX5_mayStand 83 = .ok (.iconst 1, 1) := dec_0 oX5_mayStand (of4 _) rfl
theorem dX5_mayStand_84 : decode cX5_mayStand 84 = .ok (.goto 4, 3) := dec_s2 oX5_mayStand (of167 _) 0 4 rfl (sg16p rfl) rfl
theorem dX5_mayStand_87 : decode cX5_mayStand 87 = .ok (.iconst 0, 1) := dec_0 oX5_mayStand (of3 _) rfl
theorem dX5_mayStand_88 : decode cX5_mayStand 88 = .ok (.ireturn, 1) := dec_0 oX5_mayStand (of172 _) rfl
theorem dX5_mayStand_89 : decode cX5_mayStand 89 = .ok (.aload_n 0, 1) := dec_0 oX5_mayStand (of42 _) rfl
theorem dX5_mayStand_90 : decode cX5_mayStand 90 = .ok (.invokevirtual 103, 3) := dec_2 oX5_mayStand (of182 _) 0 103 rfl rfl
theorem dX5_mayStand_93 : decode cX5_mayStand 93 = .ok (.ireturn, 1) := dec_0 oX5_mayStand (of172 _) rfl
theorem dX5_mayStand_94 : decode cX5_mayStand 94 = .ok (.aload_n 0, 1) := dec_0 oX5_mayStand (of42 _) rfl
theorem dX5_mayStand_95 : decode cX5_mayStand 95 = .ok (.invokevirtual 112, 3) := dec_2 oX5_mayStand (of182 _) 0 112 rfl rfl
theorem dX5_mayStand_98 : decode cX5_mayStand 98 = .ok (.ireturn, 1) := dec_0 oX5_mayStand (of172 _) rfl
theorem dX5_mayStand_99 : decode cX5_mayStand 99 = .ok (.aload_n 0, 1) := dec_0 oX5_mayStand (of42 _) rfl
theorem dX5_mayStand_100 : decode cX5_mayStand 100 = .ok (.getfield 42, 3) := dec_2 oX5_mayStand (of180 _) 0 42 rfl rfl
theorem dX5_mayStand_103 : decode cX5_mayStand 103 = .ok (.getfield 53, 3) := dec_2 oX5_mayStand (of180 _) 0 53 rfl rfl
theorem dX5_mayStand_106 : decode cX5_mayStand 106 = .ok (.iconst 2, 1) := dec_0 oX5_mayStand (of5 _) rfl
theorem dX5_mayStand_107 : decode cX5_mayStand 107 = .ok (.if_icmp .ne 7, 3) := dec_s2 oX5_mayStand (of160 _) 0 7 rfl (sg16p rfl) rfl
theorem dX5_mayStand_110 : decode cX5_mayStand 110 = .ok (.iconst 1, 1) := dec_0 oX5_mayStand (of4 _) rfl
theorem dX5_mayStand_111 : decode cX5_mayStand 111 = .ok (.goto 4, 3) := dec_s2 oX5_mayStand (of167 _) 0 4 rfl (sg16p rfl) rfl
theorem dX5_mayStand_114 : decode cX5_mayStand 114 = .ok (.iconst 0, 1) := dec_0 oX5_mayStand (of3 _) rfl
theorem dX5_mayStand_115 : decode cX5_mayStand 115 = .ok (.ireturn, 1) := dec_0 oX5_mayStand (of172 _) rfl
theorem dX5_mayStand_116 : decode cX5_mayStand 116 = .ok (.aload_n 0, 1) := dec_0 oX5_mayStand (of42 _) rfl
theorem dX5_mayStand_117 : decode cX5_mayStand 117 = .ok (.invokevirtual 115, 3) := dec_2 oX5_mayStand (of182 _) 0 115 rfl rfl
theorem dX5_mayStand_120 : decode cX5_mayStand 120 = .ok (.ifCond .lt 7, 3) := dec_s2 oX5_mayStand (of155 _) 0 7 rfl (sg16p rfl) rfl
theorem dX5_mayStand_123 : decode cX5_mayStand 123 = .ok (.iconst 1, 1) := dec_0 oX5_mayStand (of4 _) rfl
theorem dX5_mayStand_124 : decode cX5_mayStand 124 = .ok (.goto 4, 3) := dec_s2 oX5_mayStand (of167 _) 0 4 rfl (sg16p rfl) rfl
theorem dX5_mayStand_127 : decode cX5_mayStand 127 = .ok (.iconst 0, 1) := dec_0 oX5_mayStand (of3 _) rfl
theorem dX5_mayStand_128 : decode cX5_mayStand 128 = .ok (.ireturn, 1) := dec_0 oX5_mayStand (of172 _) rfl
theorem dX5_mayStand_129 : decode cX5_mayStand 129 = .ok (.aload_n 0, 1) := dec_0 oX5_mayStand (of42 _) rfl
theorem dX5_mayStand_130 : decode cX5_mayStand 130 = .ok (.getfield 42, 3) := dec_2 oX5_mayStand (of180 _) 0 42 rfl rfl
theorem dX5_mayStand_133 : decode cX5_mayStand 133 = .ok (.getfield 53, 3) := dec_2 oX5_mayStand (of180 _) 0 53 rfl rfl
theorem dX5_mayStand_136 : decode cX5_mayStand 136 = .ok (.iconst 3, 1) := dec_0 oX5_mayStand (of6 _) rfl
theorem dX5_mayStand_137 : decode cX5_mayStand 137 = .ok (.if_icmp .ne 7, 3) := dec_s2 oX5_mayStand (of160 _) 0 7 rfl (sg16p rfl) rfl
theorem dX5_mayStand_140 : decode cX5_mayStand 140 = .ok (.iconst 1, 1) := dec_0 oX5_mayStand (of4 _) rfl
theorem dX5_mayStand_141 : decode cX5_mayStand 141 = .ok (.goto 4, 3) := dec_s2 oX5_mayStand (of167 _) 0 4 rfl (sg16p rfl) rfl
theorem dX5_mayStand_144 : decode cX5_mayStand 144 = .ok (.iconst 0, 1) := dec_0 oX5_mayStand (of3 _) rfl
theorem dX5_mayStand_145 : decode cX5_mayStand 145 = .ok (.ireturn, 1) := dec_0 oX5_mayStand (of172 _) rfl
theorem dX5_isNameAtHand_0 : decode cX5_isNameAtHand 0 = .ok (.aload_n 0, 1) := dec_0 oX5_isNameAtHand (of42 _) rfl
theorem dX5_isNameAtHand_1 : decode cX5_isNameAtHand 1 = .ok (.invokevirtual 99, 3) := dec_2 oX5_isNameAtHand (of182 _) 0 99 rfl rfl
theorem dX5_isNameAtHand_4 : decode cX5_isNameAtHand 4 = .ok (.ifCond .ge 29, 3) := dec_s2 oX5_isNameAtHand (of156 _) 0 29 rfl (sg16p rfl) rfl
theorem dX5_isNameAtHand_7 : decode cX5_isNameAtHand 7 = .ok (.aload_n 0, 1) := dec_0 oX5_isNameAtHand (of42 _) rfl
theorem dX5_isNameAtHand_8 : decode cX5_isNameAtHand 8 = .ok (.invokevirtual 118, 3) := dec_2 oX5_isNameAtHand (of182 _) 0 118 rfl rfl
theorem dX5_isNameAtHand_11 : decode cX5_isNameAtHand 11 = .ok (.ifCond .ge 22, 3) := dec_s2 oX5_isNameAtHand (of156 _) 0 22 rfl (sg16p rfl) rfl
theorem dX5_isNameAtHand_14 : decode cX5_isNameAtHand 14 = .ok (.aload_n 0, 1) := dec_0 oX5_isNameAtHand (of42 _) rfl
theorem dX5_isNameAtHand_15 : decode cX5_isNameAtHand 15 = .ok (.invokevirtual 121, 3) := dec_2 oX5_isNameAtHand (of182 _) 0 121 rfl rfl
theorem dX5_isNameAtHand_18 : decode cX5_isNameAtHand 18 = .ok (.ifCond .ge 15, 3) := dec_s2 oX5_isNameAtHand (of156 _) 0 15 rfl (sg16p rfl) rfl
theorem dX5_isNameAtHand_21 : decode cX5_isNameAtHand 21 = .ok (.aload_n 0, 1) := dec_0 oX5_isNameAtHand (of42 _) rfl
theorem dX5_isNameAtHand_22 : decode cX5_isNameAtHand 22 = .ok (.getfield 42, 3) := dec_2 oX5_isNameAtHand (of180 _) 0 42 rfl rfl
theorem dX5_isNameAtHand_25 : decode cX5_isNameAtHand 25 = .ok (.ldc 106, 2) := dec_1 oX5_isNameAtHand (of18 _) 106 rfl rfl
theorem dX5_isNameAtHand_27 : decode cX5_isNameAtHand 27 = .ok (.invokevirtual 108, 3) := dec_2 oX5_isNameAtHand (of182 _) 0 108 rfl rfl
theorem dX5_isNameAtHand_30 : decode cX5_isNameAtHand 30 = .ok (.ifCond .eq 7, 3) := dec_s2 oX5_isNameAtHand (of153 _) 0 7 rfl (sg16p rfl) rfl
theorem dX5_isNameAtHand_33 : decode cX5_isNameAtHand 33 = .ok (.iconst 1, 1) := dec_0 oX5_isNameAtHand (of4 _) rfl
theorem dX5_isNameAtHand_34 : decode cX5_isNameAtHand 34 = .ok (.goto 4, 3) := dec_s2 oX5_isNameAtHand (of167 _) 0 4 rfl (sg16p rfl) rfl
theorem dX5_isNameAtHand_37 : decode cX5_isNameAtHand 37 = .ok (.iconst 0, 1) := dec_0 oX5_isNameAtHand (of3 _) rfl
theorem dX5_isNameAtHand_38 : decode cX5_isNameAtHand 38 = .ok (.istore_n 1, 1) := dec_0 oX5_isNameAtHand (of60 _) rfl
theorem dX5_isNameAtHand_39 : decode cX5_isNameAtHand 39 = .ok (.aload_n 0, 1) := dec_0 oX5_isNameAtHand (of42 _) rfl
theorem dX5_isNameAtHand_40 : decode cX5_isNameAtHand 40 = .ok (.getfield 42, 3) := dec_2 oX5_isNameAtHand (of180 _) 0 42 rfl rfl
theorem dX5_isNameAtHand_43 : decode cX5_isNameAtHand 43 = .ok (.getfield 53, 3) := dec_2 oX5_isNameAtHand (of180 _) 0 53 rfl rfl
theorem dX5_isNameAtHand_46 : decode cX5_isNameAtHand 46 = .ok (.iconst 1, 1) := dec_0 oX5_isNameAtHand (of4 _) rfl
theorem dX5_isNameAtHand_47 : decode cX5_isNameAtHand 47 = .ok (.if_icmp .ne 11, 3) := dec_s2 oX5_isNameAtHand (of160 _) 0 11 rfl (sg16p rfl) rfl
theorem dX5_isNameAtHand_50 : decode cX5_isNameAtHand 50 = .ok (.iload_n 1, 1) := dec_0 oX5_isNameAtHand (of27 _) rfl
theorem dX5_isNameAtHand_51 : decode cX5_isNameAtHand 51 = .ok (.ifCond .ne 7, 3) := dec_s2 oX5_isNameAtHand (of154 _) 0 7 rfl (sg16p rfl) rfl
theorem dX5_isNameAtHand_54 : decode cX5_isNameAtHand 54 = .ok (.iconst 1, 1) := dec_0 oX5_isNameAtHand (of4 _) rfl
theorem dX5_isNameAtHand_55 : decode cX5_isNameAtHand 55 = .ok (.goto 4, 3) := dec_s2 oX5_isNameAtHand (of167 _) 0 4 rfl (sg16p rfl) rfl
theorem dX5_isNameAtHand_58 : decode cX5_isNameAtHand 58 = .ok (.iconst 0, 1) := dec_0 oX5_isNameAtHand (of3 _) rfl
theorem dX5_isNameAtHand_59 : decode cX5_isNameAtHand 59 = .ok (.ireturn, 1) := dec_0 oX5_isNameAtHand (of172 _) rfl
theorem dX5_mayStandInRow_0 : decode cX5_mayStandInRow 0 = .ok (.aload_n 0, 1) := dec_0 oX5_mayStandInRow (of42 _) rfl
theorem dX5_mayStandInRow_1 : decode cX5_mayStandInRow 1 = .ok (.getfield 42, 3) := dec_2 oX5_mayStandInRow (of180 _) 0 42 rfl rfl
theorem dX5_mayStandInRow_4 : decode cX5_mayStandInRow 4 = .ok (.getfield 53, 3) := dec_2 oX5_mayStandInRow (of180 _) 0 53 rfl rfl
theorem dX5_mayStandInRow_7 : decode cX5_mayStandInRow 7 = .ok (.iconst 2, 1) := dec_0 oX5_mayStandInRow (of5 _) rfl
theorem dX5_mayStandInRow_8 : decode cX5_mayStandInRow 8 = .ok (.if_icmp .ne 5, 3) := dec_s2 oX5_mayStandInRow (of160 _) 0 5 rfl (sg16p rfl) rfl
theorem dX5_mayStandInRow_11 : decode cX5_mayStandInRow 11 = .ok (.iconst 1, 1) := dec_0 oX5_mayStandInRow (of4 _) rfl
theorem dX5_mayStandInRow_12 : decode cX5_mayStandInRow 12 = .ok (.ireturn, 1) := dec_0 oX5_mayStandInRow (of172 _) rfl
theorem dX5_mayStandInRow_13 : decode cX5_mayStandInRow 13 = .ok (.aload_n 0, 1) := dec_0 oX5_mayStandInRow (of42 _) rfl
theorem dX5_mayStandInRow_14 : decode cX5_mayStandInRow 14 = .ok (.getfield 87, 3) := dec_2 oX5_mayStandInRow (of180 _) 0 87 rfl rfl
theorem dX5_mayStandInRow_17 : decode cX5_mayStandInRow 17 = .ok (.ifCond .ne 29, 3) := dec_s2 oX5_mayStandInRow (of154 _) 0 29 rfl (sg16p rfl) rfl
theorem dX5_mayStandInRow_20 : decode cX5_mayStandInRow 20 = .ok (.aload_n 0, 1) := dec_0 oX5_mayStandInRow (of42 _) rfl
theorem dX5_mayStandInRow_21 : decode cX5_mayStandInRow 21 = .ok (.getfield 42, 3) := dec_2 oX5_mayStandInRow (of180 _) 0 42 rfl rfl
theorem dX5_mayStandInRow_24 : decode cX5_mayStandInRow 24 = .ok (.getfield 53, 3) := dec_2 oX5_mayStandInRow (of180 _) 0 53 rfl rfl
theorem dX5_mayStandInRow_27 : decode cX5_mayStandInRow 27 = .ok (.iconst 4, 1) := dec_0 oX5_mayStandInRow (of7 _) rfl
theorem dX5_mayStandInRow_28 : decode cX5_mayStandInRow 28 = .ok (.if_icmp .eq 14, 3) := dec_s2 oX5_mayStandInRow (of159 _) 0 14 rfl (sg16p rfl) rfl
theorem dX5_mayStandInRow_31 : decode cX5_mayStandInRow 31 = .ok (.aload_n 0, 1) := dec_0 oX5_mayStandInRow (of42 _) rfl
theorem dX5_mayStandInRow_32 : decode cX5_mayStandInRow 32 = .ok (.getfield 42, 3) := dec_2 oX5_mayStandInRow (of180 _) 0 42 rfl rfl
theorem dX5_mayStandInRow_35 : decode cX5_mayStandInRow 35 = .ok (.getfield 53, 3) := dec_2 oX5_mayStandInRow (of180 _) 0 53 rfl rfl
theorem dX5_mayStandInRow_38 : decode cX5_mayStandInRow 38 = .ok (.iconst 3, 1) := dec_0 oX5_mayStandInRow (of6 _) rfl
theorem dX5_mayStandInRow_39 : decode cX5_mayStandInRow 39 = .ok (.if_icmp .ne 7, 3) := dec_s2 oX5_mayStandInRow (of160 _) 0 7 rfl (sg16p rfl) rfl
theorem dX5_mayStandInRow_42 : decode cX5_mayStandInRow 42 = .ok (.iconst 1, 1) := dec_0 oX5_mayStandInRow (of4 _) rfl
theorem dX5_mayStandInRow_43 : decode cX5_mayStandInRow 43 = .ok (.goto 4, 3) := dec_s2 oX5_mayStandInRow (of167 _) 0 4 rfl (sg16p rfl) rfl
theorem dX5_mayStandInRow_46 : decode cX5_mayStandInRow 46 = .ok (.iconst 0, 1) := dec_0 oX5_mayStandInRow (of3 _) rfl
theorem dX5_mayStandInRow_47 : decode cX5_mayStandInRow 47 = .ok (.ireturn, 1) := dec_0 oX5_mayStandInRow (of172 _) rfl
theorem dX5_hasRoom_0 : decode cX5_hasRoom 0 = .ok (.aload_n 0, 1) := dec_0 oX5_hasRoom (of42 _) rfl
theorem dX5_hasRoom_1 : decode cX5_hasRoom 1 = .ok (.getfield 42, 3) := dec_2 oX5_hasRoom (of180 _) 0 42 rfl rfl
theorem dX5_hasRoom_4 : decode cX5_hasRoom 4 = .ok (.getfield 124, 3) := dec_2 oX5_hasRoom (of180 _) 0 124 rfl rfl
theorem dX5_hasRoom_7 : decode cX5_hasRoom 7 = .ok (.sipush 400, 3) := dec_s2 oX5_hasRoom (of17 _) 1 144 rfl (sg16p rfl) rfl
theorem dX5_hasRoom_10 : decode cX5_hasRoom 10 = .ok (.if_icmp .le 5, 3) := dec_s2 oX5_hasRoom (of164 _) 0 5 rfl (sg16p rfl) rfl
theorem dX5_hasRoom_13 : decode cX5_hasRoom 13 = .ok (.iconst 0, 1) := dec_0 oX5_hasRoom (of3 _) rfl
theorem dX5_hasRoom_14 : decode cX5_hasRoom 14 = .ok (.ireturn, 1) := dec_0 oX5_hasRoom (of172 _) rfl
theorem dX5_hasRoom_15 : decode cX5_hasRoom 15 = .ok (.aload_n 0, 1) := dec_0 oX5_hasRoom (of42 _) rfl
theorem dX5_hasRoom_16 : decode cX5_hasRoom 16 = .ok (.getfield 75, 3) := dec_2 oX5_hasRoom (of180 _) 0 75 rfl rfl
theorem dX5_hasRoom_19 : decode cX5_hasRoom 19 = .ok (.tableswitch 110 0 3 #[29, 54, 110, 84], 29) := by decide +kernel
theorem dX5_hasRoom_48 : decode cX5_hasRoom 48 = .ok (.aload_n 0, 1) := dec_0 oX5_hasRoom (of42 _) rfl
theorem dX5_hasRoom_49 : decode cX5_hasRoom 49 = .ok (.invokevirtual 99, 3) := dec_2 oX5_hasRoom (of182 _) 0 99 rfl rfl
theorem dX5_hasRoom_52 : decode cX5_hasRoom 52 = .ok (.iconst 5, 1) := dec_0 oX5_hasRoom (of8 _) rfl
theorem dX5_hasRoom_53 : decode cX5_hasRoom 53 = .ok (.if_icmp .ne 14, 3) := dec_s2 oX5_hasRoom (of160 _) 0 14 rfl (sg16p rfl) rfl
theorem dX5_hasRoom_56 : decode cX5_hasRoom 56 = .ok (.aload_n 0, 1) := dec_0 oX5_hasRoom (of42 _) rfl
theorem dX5_hasRoom_57 : decode cX5_hasRoom 57 = .ok (.getfield 21, 3) := dec_2 oX5_hasRoom (of180 _) 0 21 rfl rfl
theorem dX5_hasRoom_60 : decode cX5_hasRoom 60 = .ok (.getfield 84, 3) := dec_2 oX5_hasRoom (of180 _) 0 84 rfl rfl
theorem dX5_hasRoom_63 : decode cX5_hasRoom 63 = .ok (.iconst 5, 1) := dec_0 oX5_hasRoom (of8 _) rfl
theorem dX5_hasRoom_64 : decode cX5_hasRoom 64 = .ok (.if_icmp .ge 7, 3) := dec_s2 oX5_hasRoom (of162 _) 0 7 rfl (sg16p rfl) rfl
theorem dX5_hasRoom_67 : decode cX5_hasRoom 67 = .ok (.iconst 1, 1) := dec_0 oX5_hasRoom (of4 _) rfl
theorem dX5_hasRoom_68 : decode cX5_hasRoom 68 = .ok (.goto 4, 3) := dec_s2 oX5_hasRoom (of167 _) 0 4 rfl (sg16p rfl) rfl
theorem dX5_hasRoom_71 : decode cX5_hasRoom 71 = .ok (.iconst 0, 1) := dec_0 oX5_hasRoom (of3 _) rfl
theorem dX5_hasRoom_72 : decode cX5_hasRoom 72 = .ok (.ireturn, 1) := dec_0 oX5_hasRoom (of172 _) rfl
theorem dX5_hasRoom_73 : decode cX5_hasRoom 73 = .ok (.aload_n 0, 1) := dec_0 oX5_hasRoom (of42 _) rfl
theorem dX5_hasRoom_74 : decode cX5_hasRoom 74 = .ok (.getfield 42, 3) := dec_2 oX5_hasRoom (of180 _) 0 42 rfl rfl
theorem dX5_hasRoom_77 : decode cX5_hasRoom 77 = .ok (.getfield 53, 3) := dec_2 oX5_hasRoom (of180 _) 0 53 rfl rfl
end
section
theorem dX5_hasRoom_80 : decode cX5_hasRoom 80 = .ok (.iconst 3, 1) := dec_0 oX5_hasRoom (of6 _) rfl
theorem dX5_hasRoom_81 : decode cX5_hasRoom 81 = .ok (.if_icmp .eq 16, 3) := dec_s2 oX5_hasRoom (of159 _) 0 16 rfl (sg16p rfl) rfl
theorem dX5_hasRoom_84 : decode cX5_hasRoom 84 = .ok (.aload_n 0, 1) := dec_0 oX5_hasRoom (of42 _) rfl
theorem dX5_hasRoom_85 : decode cX5_hasRoom 85 = .ok (.getfield 12, 3) := dec_2 oX5_hasRoom (of180 _) 0 12 rfl rfl
theorem dX5_hasRoom_88 : decode cX5_hasRoom 88 = .ok (.getfield 127, 3) := dec_2 oX5_hasRoom (of180 _) 0 127 rfl rfl
theorem dX5_hasRoom_91 : decode cX5_hasRoom 91 = .ok (.sipush 160, 3) := dec_s2 oX5_hasRoom (of17 _) 0 160 rfl (sg16p rfl) rfl
theorem dX5_hasRoom_94 : decode cX5_hasRoom 94 = .ok (.if_icmp .ge 7, 3) := dec_s2 oX5_hasRoom (of162 _) 0 7 rfl (sg16p rfl) rfl
theorem dX5_hasRoom_97 : decode cX5_hasRoom 97 = .ok (.iconst 1, 1) := dec_0 oX5_hasRoom (of4 _) rfl
theorem dX5_hasRoom_98 : decode cX5_hasRoom 98 = .ok (.goto 4, 3) := dec_s2 oX5_hasRoom (of167 _) 0 4 rfl (sg16p rfl) rfl
theorem dX5_hasRoom_101 : decode cX5_hasRoom 101 = .ok (.iconst 0, 1) := dec_0 oX5_hasRoom (of3 _) rfl
theorem dX5_hasRoom_102 : decode cX5_hasRoom 102 = .ok (.ireturn, 1) := dec_0 oX5_hasRoom (of172 _) rfl
theorem dX5_hasRoom_103 : decode cX5_hasRoom 103 = .ok (.aload_n 0, 1) := dec_0 oX5_hasRoom (of42 _) rfl
theorem dX5_hasRoom_104 : decode cX5_hasRoom 104 = .ok (.getfield 42, 3) := dec_2 oX5_hasRoom (of180 _) 0 42 rfl rfl
theorem dX5_hasRoom_107 : decode cX5_hasRoom 107 = .ok (.getfield 53, 3) := dec_2 oX5_hasRoom (of180 _) 0 53 rfl rfl
theorem dX5_hasRoom_110 : decode cX5_hasRoom 110 = .ok (.iconst 3, 1) := dec_0 oX5_hasRoom (of6 _) rfl
theorem dX5_hasRoom_111 : decode cX5_hasRoom 111 = .ok (.if_icmp .eq 12, 3) := dec_s2 oX5_hasRoom (of159 _) 0 12 rfl (sg16p rfl) rfl
theorem dX5_hasRoom_114 : decode cX5_hasRoom 114 = .ok (.aload_n 0, 1) := dec_0 oX5_hasRoom (of42 _) rfl
theorem dX5_hasRoom_115 : decode cX5_hasRoom 115 = .ok (.getfield 32, 3) := dec_2 oX5_hasRoom (of180 _) 0 32 rfl rfl
theorem dX5_hasRoom_118 : decode cX5_hasRoom 118 = .ok (.bipush 16, 2) := dec_s1 oX5_hasRoom (of16 _) 16 rfl (sg8p rfl) rfl
theorem dX5_hasRoom_120 : decode cX5_hasRoom 120 = .ok (.if_icmp .ge 7, 3) := dec_s2 oX5_hasRoom (of162 _) 0 7 rfl (sg16p rfl) rfl
theorem dX5_hasRoom_123 : decode cX5_hasRoom 123 = .ok (.iconst 1, 1) := dec_0 oX5_hasRoom (of4 _) rfl
theorem dX5_hasRoom_124 : decode cX5_hasRoom 124 = .ok (.goto 4, 3) := dec_s2 oX5_hasRoom (of167 _) 0 4 rfl (sg16p rfl) rfl
theorem dX5_hasRoom_127 : decode cX5_hasRoom 127 = .ok (.iconst 0, 1) := dec_0 oX5_hasRoom (of3 _) rfl
theorem dX5_hasRoom_128 : decode cX5_hasRoom 128 = .ok (.ireturn, 1) := dec_0 oX5_hasRoom (of172 _) rfl
theorem dX5_hasRoom_129 : decode cX5_hasRoom 129 = .ok (.iconst 1, 1) := dec_0 oX5_hasRoom (of4 _) rfl
theorem dX5_hasRoom_130 : decode cX5_hasRoom 130 = .ok (.ireturn, 1) := dec_0 oX5_hasRoom (of172 _) rfl
theorem dX5_accept_0 : decode cX5_accept 0 = .ok (.aload_n 0, 1) := dec_0 oX5_accept (of42 _) rfl
theorem dX5_accept_1 : decode cX5_accept 1 = .ok (.getfield 75, 3) := dec_2 oX5_accept (of180 _) 0 75 rfl rfl
theorem dX5_accept_4 : decode cX5_accept 4 = .ok (.tableswitch 100 0 6 #[44, 100, 51, 100, 58, 65, 92], 44) := by decide +kernel
theorem dX5_accept_48 : decode cX5_accept 48 = .ok (.aload_n 0, 1) := dec_0 oX5_accept (of42 _) rfl
theorem dX5_accept_49 : decode cX5_accept 49 = .ok (.invokevirtual 128, 3) := dec_2 oX5_accept (of182 _) 0 128 rfl rfl
theorem dX5_accept_52 : decode cX5_accept 52 = .ok (.goto 56, 3) := dec_s2 oX5_accept (of167 _) 0 56 rfl (sg16p rfl) rfl
theorem dX5_accept_55 : decode cX5_accept 55 = .ok (.aload_n 0, 1) := dec_0 oX5_accept (of42 _) rfl
theorem dX5_accept_56 : decode cX5_accept 56 = .ok (.invokevirtual 131, 3) := dec_2 oX5_accept (of182 _) 0 131 rfl rfl
theorem dX5_accept_59 : decode cX5_accept 59 = .ok (.goto 49, 3) := dec_s2 oX5_accept (of167 _) 0 49 rfl (sg16p rfl) rfl
theorem dX5_accept_62 : decode cX5_accept 62 = .ok (.aload_n 0, 1) := dec_0 oX5_accept (of42 _) rfl
theorem dX5_accept_63 : decode cX5_accept 63 = .ok (.invokevirtual 134, 3) := dec_2 oX5_accept (of182 _) 0 134 rfl rfl
theorem dX5_accept_66 : decode cX5_accept 66 = .ok (.goto 42, 3) := dec_s2 oX5_accept (of167 _) 0 42 rfl (sg16p rfl) rfl
theorem dX5_accept_69 : decode cX5_accept 69 = .ok (.aload_n 0, 1) := dec_0 oX5_accept (of42 _) rfl
theorem dX5_accept_70 : decode cX5_accept 70 = .ok (.getfield 12, 3) := dec_2 oX5_accept (of180 _) 0 12 rfl rfl
theorem dX5_accept_73 : decode cX5_accept 73 = .ok (.getfield 137, 3) := dec_2 oX5_accept (of180 _) 0 137 rfl rfl
theorem dX5_accept_76 : decode cX5_accept 76 = .ok (.aload_n 0, 1) := dec_0 oX5_accept (of42 _) rfl
theorem dX5_accept_77 : decode cX5_accept 77 = .ok (.getfield 141, 3) := dec_2 oX5_accept (of180 _) 0 141 rfl rfl
theorem dX5_accept_80 : decode cX5_accept 80 = .ok (.aload_n 0, 1) := dec_0 oX5_accept (of42 _) rfl
theorem dX5_accept_81 : decode cX5_accept 81 = .ok (.invokevirtual 115, 3) := dec_2 oX5_accept (of182 _) 0 115 rfl rfl
theorem dX5_accept_84 : decode cX5_accept 84 = .ok (.invokevirtual 144, 3) := dec_2 oX5_accept (of182 _) 0 144 rfl rfl
theorem dX5_accept_87 : decode cX5_accept 87 = .ok (.aload_n 0, 1) := dec_0 oX5_accept (of42 _) rfl
theorem dX5_accept_88 : decode cX5_accept 88 = .ok (.bipush 6, 2) := dec_s1 oX5_accept (of16 _) 6 rfl (sg8p rfl) rfl
theorem dX5_accept_90 : decode cX5_accept 90 = .ok (.putfield 75, 3) := dec_2 oX5_accept (of181 _) 0 75 rfl rfl
theorem dX5_accept_93 : decode cX5_accept 93 = .ok (.goto 15, 3) := dec_s2 oX5_accept (of167 _) 0 15 rfl (sg16p rfl) rfl
theorem dX5_accept_96 : decode cX5_accept 96 = .ok (.aload_n 0, 1) := dec_0 oX5_accept (of42 _) rfl
theorem dX5_accept_97 : decode cX5_accept 97 = .ok (.iconst 0, 1) := dec_0 oX5_accept (of3 _) rfl
theorem dX5_accept_98 : decode cX5_accept 98 = .ok (.putfield 75, 3) := dec_2 oX5_accept (of181 _) 0 75 rfl rfl
theorem dX5_accept_101 : decode cX5_accept 101 = .ok (.goto 7, 3) := dec_s2 oX5_accept (of167 _) 0 7 rfl (sg16p rfl) rfl
theorem dX5_accept_104 : decode cX5_accept 104 = .ok (.aload_n 0, 1) := dec_0 oX5_accept (of42 _) rfl
theorem dX5_accept_105 : decode cX5_accept 105 = .ok (.invokevirtual 150, 3) := dec_2 oX5_accept (of182 _) 0 150 rfl rfl
theorem dX5_accept_108 : decode cX5_accept 108 = .ok (.return_, 1) := dec_0 oX5_accept (of177 _) rfl
theorem dX5_tellAtHand_0 : decode cX5_tellAtHand 0 = .ok (.aload_n 0, 1) := dec_0 oX5_tellAtHand (of42 _) rfl
theorem dX5_tellAtHand_1 : decode cX5_tellAtHand 1 = .ok (.getfield 42, 3) := dec_2 oX5_tellAtHand (of180 _) 0 42 rfl rfl
theorem dX5_tellAtHand_4 : decode cX5_tellAtHand 4 = .ok (.ldc 153, 2) := dec_1 oX5_tellAtHand (of18 _) 153 rfl rfl
theorem dX5_tellAtHand_6 : decode cX5_tellAtHand 6 = .ok (.invokevirtual 108, 3) := dec_2 oX5_tellAtHand (of182 _) 0 108 rfl rfl
theorem dX5_tellAtHand_9 : decode cX5_tellAtHand 9 = .ok (.ifCond .eq 5, 3) := dec_s2 oX5_tellAtHand (of153 _) 0 5 rfl (sg16p rfl) rfl
theorem dX5_tellAtHand_12 : decode cX5_tellAtHand 12 = .ok (.iconst 4, 1) := dec_0 oX5_tellAtHand (of7 _) rfl
theorem dX5_tellAtHand_13 : decode cX5_tellAtHand 13 = .ok (.ireturn, 1) := dec_0 oX5_tellAtHand (of172 _) rfl
theorem dX5_tellAtHand_14 : decode cX5_tellAtHand 14 = .ok (.aload_n 0, 1) := dec_0 oX5_tellAtHand (of42 _) rfl
theorem dX5_tellAtHand_15 : decode cX5_tellAtHand 15 = .ok (.getfield 42, 3) := dec_2 oX5_tellAtHand (of180 _) 0 42 rfl rfl
theorem dX5_tellAtHand_18 : decode cX5_tellAtHand 18 = .ok (.ldc 155, 2) := dec_1 oX5_tellAtHand (of18 _) 155 rfl rfl
theorem dX5_tellAtHand_20 : decode cX5_tellAtHand 20 = .ok (.invokevirtual 108, 3) := dec_2 oX5_tellAtHand (of182 _) 0 108 rfl rfl
theorem dX5_tellAtHand_23 : decode cX5_tellAtHand 23 = .ok (.ifCond .eq 5, 3) := dec_s2 oX5_tellAtHand (of153 _) 0 5 rfl (sg16p rfl) rfl
theorem dX5_tellAtHand_26 : decode cX5_tellAtHand 26 = .ok (.iconst 5, 1) := dec_0 oX5_tellAtHand (of8 _) rfl
theorem dX5_tellAtHand_27 : decode cX5_tellAtHand 27 = .ok (.ireturn, 1) := dec_0 oX5_tellAtHand (of172 _) rfl
theorem dX5_tellAtHand_28 : decode cX5_tellAtHand 28 = .ok (.aload_n 0, 1) := dec_0 oX5_tellAtHand (of42 _) rfl
theorem dX5_tellAtHand_29 : decode cX5_tellAtHand 29 = .ok (.getfield 42, 3) := dec_2 oX5_tellAtHand (of180 _) 0 42 rfl rfl
theorem dX5_tellAtHand_32 : decode cX5_tellAtHand 32 = .ok (.ldc 157, 2) := dec_1 oX5_tellAtHand (of18 _) 157 rfl rfl
theorem dX5_tellAtHand_34 : decode cX5_tellAtHand 34 = .ok (.invokevirtual 108, 3) := dec_2 oX5_tellAtHand (of182 _) 0 108 rfl rfl
theorem dX5_tellAtHand_37 : decode cX5_tellAtHand 37 = .ok (.ifCond .eq 5, 3) := dec_s2 oX5_tellAtHand (of153 _) 0 5 rfl (sg16p rfl) rfl
theorem dX5_tellAtHand_40 : decode cX5_tellAtHand 40 = .ok (.iconst 0, 1) := dec_0 oX5_tellAtHand (of3 _) rfl
theorem dX5_tellAtHand_41 : decode cX5_tellAtHand 41 = .ok (.ireturn, 1) := dec_0 oX5_tellAtHand (of172 _) rfl
theorem dX5_tellAtHand_42 : decode cX5_tellAtHand 42 = .ok (.aload_n 0, 1) := dec_0 oX5_tellAtHand (of42 _) rfl
theorem dX5_tellAtHand_43 : decode cX5_tellAtHand 43 = .ok (.getfield 42, 3) := dec_2 oX5_tellAtHand (of180 _) 0 42 rfl rfl
theorem dX5_tellAtHand_46 : decode cX5_tellAtHand 46 = .ok (.ldc 159, 2) := dec_1 oX5_tellAtHand (of18 _) 159 rfl rfl
theorem dX5_tellAtHand_48 : decode cX5_tellAtHand 48 = .ok (.invokevirtual 108, 3) := dec_2 oX5_tellAtHand (of182 _) 0 108 rfl rfl
theorem dX5_tellAtHand_51 : decode cX5_tellAtHand 51 = .ok (.ifCond .eq 5, 3) := dec_s2 oX5_tellAtHand (of153 _) 0 5 rfl (sg16p rfl) rfl
theorem dX5_tellAtHand_54 : decode cX5_tellAtHand 54 = .ok (.iconst 1, 1) := dec_0 oX5_tellAtHand (of4 _) rfl
theorem dX5_tellAtHand_55 : decode cX5_tellAtHand 55 = .ok (.ireturn, 1) := dec_0 oX5_tellAtHand (of172 _) rfl
theorem dX5_tellAtHand_56 : decode cX5_tellAtHand 56 = .ok (.aload_n 0, 1) := dec_0 oX5_tellAtHand (of42 _) rfl
theorem dX5_tellAtHand_57 : decode cX5_tellAtHand 57 = .ok (.getfield 42, 3) := dec_2 oX5_tellAtHand (of180 _) 0 42 rfl rfl
theorem dX5_tellAtHand_60 : decode cX5_tellAtHand 60 = .ok (.ldc 161, 2) := dec_1 oX5_tellAtHand (of18 _) 161 rfl rfl
theorem dX5_tellAtHand_62 : decode cX5_tellAtHand 62 = .ok (.invokevirtual 108, 3) := dec_2 oX5_tellAtHand (of182 _) 0 108 rfl rfl
theorem dX5_tellAtHand_65 : decode cX5_tellAtHand 65 = .ok (.ifCond .eq 5, 3) := dec_s2 oX5_tellAtHand (of153 _) 0 5 rfl (sg16p rfl) rfl
theorem dX5_tellAtHand_68 : decode cX5_tellAtHand 68 = .ok (.iconst 2, 1) := dec_0 oX5_tellAtHand (of5 _) rfl
theorem dX5_tellAtHand_69 : decode cX5_tellAtHand 69 = .ok (.ireturn, 1) := dec_0 oX5_tellAtHand (of172 _) rfl
theorem dX5_tellAtHand_70 : decode cX5_tellAtHand 70 = .ok (.aload_n 0, 1) := dec_0 oX5_tellAtHand (of42 _) rfl
theorem dX5_tellAtHand_71 : decode cX5_tellAtHand 71 = .ok (.getfield 42, 3) := dec_2 oX5_tellAtHand (of180 _) 0 42 rfl rfl
theorem dX5_tellAtHand_74 : decode cX5_tellAtHand 74 = .ok (.ldc 163, 2) := dec_1 oX5_tellAtHand (of18 _) 163 rfl rfl
theorem dX5_tellAtHand_76 : decode cX5_tellAtHand 76 = .ok (.invokevirtual 108, 3) := dec_2 oX5_tellAtHand (of182 _) 0 108 rfl rfl
theorem dX5_tellAtHand_79 : decode cX5_tellAtHand 79 = .ok (.ifCond .eq 7, 3) := dec_s2 oX5_tellAtHand (of153 _) 0 7 rfl (sg16p rfl) rfl
theorem dX5_tellAtHand_82 : decode cX5_tellAtHand 82 = .ok (.iconst 3, 1) := dec_0 oX5_tellAtHand (of6 _) rfl
theorem dX5_tellAtHand_83 : decode cX5_tellAtHand 83 = .ok (.goto 4, 3) := dec_s2 oX5_tellAtHand (of167 _) 0 4 rfl (sg16p rfl) rfl
theorem dX5_tellAtHand_86 : decode cX5_tellAtHand 86 = .ok (.iconst (-1), 1) := dec_0 oX5_tellAtHand (of2 _) rfl
theorem dX5_tellAtHand_87 : decode cX5_tellAtHand 87 = .ok (.ireturn, 1) := dec_0 oX5_tellAtHand (of172 _) rfl
theorem dX5_choiceAtHand_0 : decode cX5_choiceAtHand 0 = .ok (.aload_n 0, 1) := dec_0 oX5_choiceAtHand (of42 _) rfl
theorem dX5_choiceAtHand_1 : decode cX5_choiceAtHand 1 = .ok (.getfield 141, 3) := dec_2 oX5_choiceAtHand (of180 _) 0 141 rfl rfl
theorem dX5_choiceAtHand_4 : decode cX5_choiceAtHand 4 = .ok (.iconst 1, 1) := dec_0 oX5_choiceAtHand (of4 _) rfl
theorem dX5_choiceAtHand_5 : decode cX5_choiceAtHand 5 = .ok (.if_icmp .ne 10, 3) := dec_s2 oX5_choiceAtHand (of160 _) 0 10 rfl (sg16p rfl) rfl
theorem dX5_choiceAtHand_8 : decode cX5_choiceAtHand 8 = .ok (.aload_n 0, 1) := dec_0 oX5_choiceAtHand (of42 _) rfl
theorem dX5_choiceAtHand_9 : decode cX5_choiceAtHand 9 = .ok (.invokevirtual 118, 3) := dec_2 oX5_choiceAtHand (of182 _) 0 118 rfl rfl
theorem dX5_choiceAtHand_12 : decode cX5_choiceAtHand 12 = .ok (.goto 7, 3) := dec_s2 oX5_choiceAtHand (of167 _) 0 7 rfl (sg16p rfl) rfl
theorem dX5_choiceAtHand_15 : decode cX5_choiceAtHand 15 = .ok (.aload_n 0, 1) := dec_0 oX5_choiceAtHand (of42 _) rfl
theorem dX5_choiceAtHand_16 : decode cX5_choiceAtHand 16 = .ok (.invokevirtual 121, 3) := dec_2 oX5_choiceAtHand (of182 _) 0 121 rfl rfl
theorem dX5_choiceAtHand_19 : decode cX5_choiceAtHand 19 = .ok (.ireturn, 1) := dec_0 oX5_choiceAtHand (of172 _) rfl
theorem dX5_levelAtHand_0 : decode cX5_levelAtHand 0 = .ok (.aload_n 0, 1) := dec_0 oX5_levelAtHand (of42 _) rfl
theorem dX5_levelAtHand_1 : decode cX5_levelAtHand 1 = .ok (.getfield 42, 3) := dec_2 oX5_levelAtHand (of180 _) 0 42 rfl rfl
theorem dX5_levelAtHand_4 : decode cX5_levelAtHand 4 = .ok (.ldc 165, 2) := dec_1 oX5_levelAtHand (of18 _) 165 rfl rfl
theorem dX5_levelAtHand_6 : decode cX5_levelAtHand 6 = .ok (.invokevirtual 108, 3) := dec_2 oX5_levelAtHand (of182 _) 0 108 rfl rfl
theorem dX5_levelAtHand_9 : decode cX5_levelAtHand 9 = .ok (.ifCond .eq 5, 3) := dec_s2 oX5_levelAtHand (of153 _) 0 5 rfl (sg16p rfl) rfl
theorem dX5_levelAtHand_12 : decode cX5_levelAtHand 12 = .ok (.iconst 0, 1) := dec_0 oX5_levelAtHand (of3 _) rfl
theorem dX5_levelAtHand_13 : decode cX5_levelAtHand 13 = .ok (.ireturn, 1) := dec_0 oX5_levelAtHand (of172 _) rfl
theorem dX5_levelAtHand_14 : decode cX5_levelAtHand 14 = .ok (.aload_n 0, 1) := dec_0 oX5_levelAtHand (of42 _) rfl
theorem dX5_levelAtHand_15 : decode cX5_levelAtHand 15 = .ok (.getfield 42, 3) := dec_2 oX5_levelAtHand (of180 _) 0 42 rfl rfl
theorem dX5_levelAtHand_18 : decode cX5_levelAtHand 18 = .ok (.ldc 167, 2) := dec_1 oX5_levelAtHand (of18 _) 167 rfl rfl
theorem dX5_levelAtHand_20 : decode cX5_levelAtHand 20 = .ok (.invokevirtual 108, 3) := dec_2 oX5_levelAtHand (of182 _) 0 108 rfl rfl
theorem dX5_levelAtHand_23 : decode cX5_levelAtHand 23 = .ok (.ifCond .eq 5, 3) := dec_s2 oX5_levelAtHand (of153 _) 0 5 rfl (sg16p rfl) rfl
theorem dX5_levelAtHand_26 : decode cX5_levelAtHand 26 = .ok (.iconst 1, 1) := dec_0 oX5_levelAtHand (of4 _) rfl
theorem dX5_levelAtHand_27 : decode cX5_levelAtHand 27 = .ok (.ireturn, 1) := dec_0 oX5_levelAtHand (of172 _) rfl
theorem dX5_levelAtHand_28 : decode cX5_levelAtHand 28 = .ok (.aload_n 0, 1) := dec_0 oX5_levelAtHand (of42 _) rfl
theorem dX5_levelAtHand_29 : decode cX5_levelAtHand 29 = .ok (.getfield 42, 3) := dec_2 oX5_levelAtHand (of180 _) 0 42 rfl rfl
theorem dX5_levelAtHand_32 : decode cX5_levelAtHand 32 = .ok (.ldc 169, 2) := dec_1 oX5_levelAtHand (of18 _) 169 rfl rfl
theorem dX5_levelAtHand_34 : decode cX5_levelAtHand 34 = .ok (.invokevirtual 108, 3) := dec_2 oX5_levelAtHand (of182 _) 0 108 rfl rfl
theorem dX5_levelAtHand_37 : decode cX5_levelAtHand 37 = .ok (.ifCond .eq 5, 3) := dec_s2 oX5_levelAtHand (of153 _) 0 5 rfl (sg16p rfl) rfl
theorem dX5_levelAtHand_40 : decode cX5_levelAtHand 40 = .ok (.iconst 2, 1) := dec_0 oX5_levelAtHand (of5 _) rfl
theorem dX5_levelAtHand_41 : decode cX5_levelAtHand 41 = .ok (.ireturn, 1) := dec_0 oX5_levelAtHand (of172 _) rfl
theorem dX5_levelAtHand_42 : decode cX5_levelAtHand 42 = .ok (.aload_n 0, 1) := dec_0 oX5_levelAtHand (of42 _) rfl
theorem dX5_levelAtHand_43 : decode cX5_levelAtHand 43 = .ok (.getfield 42, 3) := dec_2 oX5_levelAtHand (of180 _) 0 42 rfl rfl
theorem dX5_levelAtHand_46 : decode cX5_levelAtHand 46 = .ok (.ldc 171, 2) := dec_1 oX5_levelAtHand (of18 _) 171 rfl rfl
theorem dX5_levelAtHand_48 : decode cX5_levelAtHand 48 = .ok (.invokevirtual 108, 3) := dec_2 oX5_levelAtHand (of182 _) 0 108 rfl rfl
theorem dX5_levelAtHand_51 : decode cX5_levelAtHand 51 = .ok (.ifCond .eq 7, 3) := dec_s2 oX5_levelAtHand (of153 _) 0 7 rfl (sg16p rfl) rfl
theorem dX5_levelAtHand_54 : decode cX5_levelAtHand 54 = .ok (.iconst 3, 1) := dec_0 oX5_levelAtHand (of6 _) rfl
theorem dX5_levelAtHand_55 : decode cX5_levelAtHand 55 = .ok (.goto 4, 3) := dec_s2 oX5_levelAtHand (of167 _) 0 4 rfl (sg16p rfl) rfl
theorem dX5_levelAtHand_58 : decode cX5_levelAtHand 58 = .ok (.iconst (-1), 1) := dec_0 oX5_levelAtHand (of2 _) rfl
theorem dX5_levelAtHand_59 : decode cX5_levelAtHand 59 = .ok (.ireturn, 1) := dec_0 oX5_levelAtHand (of172 _) rfl
theorem dX5_costAtHand_0 : decode cX5_costAtHand 0 = .ok (.aload_n 0, 1) := dec_0 oX5_costAtHand (of42 _) rfl
theorem dX5_costAtHand_1 : decode cX5_costAtHand 1 = .ok (.getfield 42, 3) := dec_2 oX5_costAtHand (of180 _) 0 42 rfl rfl
theorem dX5_costAtHand_4 : decode cX5_costAtHand 4 = .ok (.ldc 173, 2) := dec_1 oX5_costAtHand (of18 _) 173 rfl rfl
theorem dX5_costAtHand_6 : decode cX5_costAtHand 6 = .ok (.invokevirtual 108, 3) := dec_2 oX5_costAtHand (of182 _) 0 108 rfl rfl
theorem dX5_costAtHand_9 : decode cX5_costAtHand 9 = .ok (.ifCond .eq 5, 3) := dec_s2 oX5_costAtHand (of153 _) 0 5 rfl (sg16p rfl) rfl
theorem dX5_costAtHand_12 : decode cX5_costAtHand 12 = .ok (.iconst 0, 1) := dec_0 oX5_costAtHand (of3 _) rfl
theorem dX5_costAtHand_13 : decode cX5_costAtHand 13 = .ok (.ireturn, 1) := dec_0 oX5_costAtHand (of172 _) rfl
theorem dX5_costAtHand_14 : decode cX5_costAtHand 14 = .ok (.aload_n 0, 1) := dec_0 oX5_costAtHand (of42 _) rfl
theorem dX5_costAtHand_15 : decode cX5_costAtHand 15 = .ok (.getfield 42, 3) := dec_2 oX5_costAtHand (of180 _) 0 42 rfl rfl
theorem dX5_costAtHand_18 : decode cX5_costAtHand 18 = .ok (.ldc 175, 2) := dec_1 oX5_costAtHand (of18 _) 175 rfl rfl
theorem dX5_costAtHand_20 : decode cX5_costAtHand 20 = .ok (.invokevirtual 108, 3) := dec_2 oX5_costAtHand (of182 _) 0 108 rfl rfl
theorem dX5_costAtHand_23 : decode cX5_costAtHand 23 = .ok (.ifCond .eq 7, 3) := dec_s2 oX5_costAtHand (of153 _) 0 7 rfl (sg16p rfl) rfl
theorem dX5_costAtHand_26 : decode cX5_costAtHand 26 = .ok (.iconst 1, 1) := dec_0 oX5_costAtHand (of4 _) rfl
theorem dX5_costAtHand_27 : decode cX5_costAtHand 27 = .ok (.goto 4, 3) := dec_s2 oX5_costAtHand (of167 _) 0 4 rfl (sg16p rfl) rfl
theorem dX5_costAtHand_30 : decode cX5_costAtHand 30 = .ok (.iconst (-1), 1) := dec_0 oX5_costAtHand (of2 _) rfl
theorem dX5_costAtHand_31 : decode cX5_costAtHand 31 = .ok (.ireturn, 1) := dec_0 oX5_costAtHand (of172 _) rfl
theorem dX5_beginTell_0 : decode cX5_beginTell 0 = .ok (.aload_n 0, 1) := dec_0 oX5_beginTell (of42 _) rfl
theorem dX5_beginTell_1 : decode cX5_beginTell 1 = .ok (.aload_n 0, 1) := dec_0 oX5_beginTell (of42 _) rfl
theorem dX5_beginTell_2 : decode cX5_beginTell 2 = .ok (.invokevirtual 99, 3) := dec_2 oX5_beginTell (of182 _) 0 99 rfl rfl
theorem dX5_beginTell_5 : decode cX5_beginTell 5 = .ok (.putfield 141, 3) := dec_2 oX5_beginTell (of181 _) 0 141 rfl rfl
theorem dX5_beginTell_8 : decode cX5_beginTell 8 = .ok (.aload_n 0, 1) := dec_0 oX5_beginTell (of42 _) rfl
theorem dX5_beginTell_9 : decode cX5_beginTell 9 = .ok (.getfield 141, 3) := dec_2 oX5_beginTell (of180 _) 0 141 rfl rfl
theorem dX5_beginTell_12 : decode cX5_beginTell 12 = .ok (.tableswitch 74 0 5 #[66, 74, 74, 66, 40, 53], 40) := by decide +kernel
theorem dX5_beginTell_52 : decode cX5_beginTell 52 = .ok (.aload_n 0, 1) := dec_0 oX5_beginTell (of42 _) rfl
theorem dX5_beginTell_53 : decode cX5_beginTell 53 = .ok (.iconst 1, 1) := dec_0 oX5_beginTell (of4 _) rfl
theorem dX5_beginTell_54 : decode cX5_beginTell 54 = .ok (.putfield 75, 3) := dec_2 oX5_beginTell (of181 _) 0 75 rfl rfl
theorem dX5_beginTell_57 : decode cX5_beginTell 57 = .ok (.aload_n 0, 1) := dec_0 oX5_beginTell (of42 _) rfl
theorem dX5_beginTell_58 : decode cX5_beginTell 58 = .ok (.iconst 0, 1) := dec_0 oX5_beginTell (of3 _) rfl
theorem dX5_beginTell_59 : decode cX5_beginTell 59 = .ok (.putfield 32, 3) := dec_2 oX5_beginTell (of181 _) 0 32 rfl rfl
theorem dX5_beginTell_62 : decode cX5_beginTell 62 = .ok (.goto 29, 3) := dec_s2 oX5_beginTell (of167 _) 0 29 rfl (sg16p rfl) rfl
theorem dX5_beginTell_65 : decode cX5_beginTell 65 = .ok (.aload_n 0, 1) := dec_0 oX5_beginTell (of42 _) rfl
theorem dX5_beginTell_66 : decode cX5_beginTell 66 = .ok (.iconst 2, 1) := dec_0 oX5_beginTell (of5 _) rfl
theorem dX5_beginTell_67 : decode cX5_beginTell 67 = .ok (.putfield 75, 3) := dec_2 oX5_beginTell (of181 _) 0 75 rfl rfl
theorem dX5_beginTell_70 : decode cX5_beginTell 70 = .ok (.aload_n 0, 1) := dec_0 oX5_beginTell (of42 _) rfl
theorem dX5_beginTell_71 : decode cX5_beginTell 71 = .ok (.iconst 0, 1) := dec_0 oX5_beginTell (of3 _) rfl
theorem dX5_beginTell_72 : decode cX5_beginTell 72 = .ok (.putfield 32, 3) := dec_2 oX5_beginTell (of181 _) 0 32 rfl rfl
theorem dX5_beginTell_75 : decode cX5_beginTell 75 = .ok (.goto 16, 3) := dec_s2 oX5_beginTell (of167 _) 0 16 rfl (sg16p rfl) rfl
theorem dX5_beginTell_78 : decode cX5_beginTell 78 = .ok (.aload_n 0, 1) := dec_0 oX5_beginTell (of42 _) rfl
theorem dX5_beginTell_79 : decode cX5_beginTell 79 = .ok (.iconst 4, 1) := dec_0 oX5_beginTell (of7 _) rfl
theorem dX5_beginTell_80 : decode cX5_beginTell 80 = .ok (.putfield 75, 3) := dec_2 oX5_beginTell (of181 _) 0 75 rfl rfl
theorem dX5_beginTell_83 : decode cX5_beginTell 83 = .ok (.goto 8, 3) := dec_s2 oX5_beginTell (of167 _) 0 8 rfl (sg16p rfl) rfl
theorem dX5_beginTell_86 : decode cX5_beginTell 86 = .ok (.aload_n 0, 1) := dec_0 oX5_beginTell (of42 _) rfl
theorem dX5_beginTell_87 : decode cX5_beginTell 87 = .ok (.iconst 5, 1) := dec_0 oX5_beginTell (of8 _) rfl
theorem dX5_beginTell_88 : decode cX5_beginTell 88 = .ok (.putfield 75, 3) := dec_2 oX5_beginTell (of181 _) 0 75 rfl rfl
theorem dX5_beginTell_91 : decode cX5_beginTell 91 = .ok (.return_, 1) := dec_0 oX5_beginTell (of177 _) rfl
theorem dX5_acceptName_0 : decode cX5_acceptName 0 = .ok (.aload_n 0, 1) := dec_0 oX5_acceptName (of42 _) rfl
theorem dX5_acceptName_1 : decode cX5_acceptName 1 = .ok (.getfield 21, 3) := dec_2 oX5_acceptName (of180 _) 0 21 rfl rfl
theorem dX5_acceptName_4 : decode cX5_acceptName 4 = .ok (.getfield 84, 3) := dec_2 oX5_acceptName (of180 _) 0 84 rfl rfl
theorem dX5_acceptName_7 : decode cX5_acceptName 7 = .ok (.istore_n 1, 1) := dec_0 oX5_acceptName (of60 _) rfl
theorem dX5_acceptName_8 : decode cX5_acceptName 8 = .ok (.iconst 0, 1) := dec_0 oX5_acceptName (of3 _) rfl
theorem dX5_acceptName_9 : decode cX5_acceptName 9 = .ok (.istore_n 2, 1) := dec_0 oX5_acceptName (of61 _) rfl
theorem dX5_acceptName_10 : decode cX5_acceptName 10 = .ok (.iload_n 2, 1) := dec_0 oX5_acceptName (of28 _) rfl
theorem dX5_acceptName_11 : decode cX5_acceptName 11 = .ok (.iload_n 1, 1) := dec_0 oX5_acceptName (of27 _) rfl
theorem dX5_acceptName_12 : decode cX5_acceptName 12 = .ok (.if_icmp .ge 41, 3) := dec_s2 oX5_acceptName (of162 _) 0 41 rfl (sg16p rfl) rfl
theorem dX5_acceptName_15 : decode cX5_acceptName 15 = .ok (.iload_n 2, 1) := dec_0 oX5_acceptName (of28 _) rfl
theorem dX5_acceptName_16 : decode cX5_acceptName 16 = .ok (.iconst 5, 1) := dec_0 oX5_acceptName (of8 _) rfl
theorem dX5_acceptName_17 : decode cX5_acceptName 17 = .ok (.if_icmp .ge 36, 3) := dec_s2 oX5_acceptName (of162 _) 0 36 rfl (sg16p rfl) rfl
theorem dX5_acceptName_20 : decode cX5_acceptName 20 = .ok (.aload_n 0, 1) := dec_0 oX5_acceptName (of42 _) rfl
theorem dX5_acceptName_21 : decode cX5_acceptName 21 = .ok (.getfield 42, 3) := dec_2 oX5_acceptName (of180 _) 0 42 rfl rfl
theorem dX5_acceptName_24 : decode cX5_acceptName 24 = .ok (.aload_n 0, 1) := dec_0 oX5_acceptName (of42 _) rfl
theorem dX5_acceptName_25 : decode cX5_acceptName 25 = .ok (.getfield 25, 3) := dec_2 oX5_acceptName (of180 _) 0 25 rfl rfl
theorem dX5_acceptName_28 : decode cX5_acceptName 28 = .ok (.iload_n 2, 1) := dec_0 oX5_acceptName (of28 _) rfl
theorem dX5_acceptName_29 : decode cX5_acceptName 29 = .ok (.iaload, 1) := dec_0 oX5_acceptName (of46 _) rfl
theorem dX5_acceptName_30 : decode cX5_acceptName 30 = .ok (.aload_n 0, 1) := dec_0 oX5_acceptName (of42 _) rfl
theorem dX5_acceptName_31 : decode cX5_acceptName 31 = .ok (.getfield 29, 3) := dec_2 oX5_acceptName (of180 _) 0 29 rfl rfl
theorem dX5_acceptName_34 : decode cX5_acceptName 34 = .ok (.iload_n 2, 1) := dec_0 oX5_acceptName (of28 _) rfl
theorem dX5_acceptName_35 : decode cX5_acceptName 35 = .ok (.iaload, 1) := dec_0 oX5_acceptName (of46 _) rfl
theorem dX5_acceptName_36 : decode cX5_acceptName 36 = .ok (.invokevirtual 177, 3) := dec_2 oX5_acceptName (of182 _) 0 177 rfl rfl
theorem dX5_acceptName_39 : decode cX5_acceptName 39 = .ok (.ifCond .eq 8, 3) := dec_s2 oX5_acceptName (of153 _) 0 8 rfl (sg16p rfl) rfl
theorem dX5_acceptName_42 : decode cX5_acceptName 42 = .ok (.aload_n 0, 1) := dec_0 oX5_acceptName (of42 _) rfl
theorem dX5_acceptName_43 : decode cX5_acceptName 43 = .ok (.iconst 3, 1) := dec_0 oX5_acceptName (of6 _) rfl
theorem dX5_acceptName_44 : decode cX5_acceptName 44 = .ok (.invokevirtual 181, 3) := dec_2 oX5_acceptName (of182 _) 0 181 rfl rfl
theorem dX5_acceptName_47 : decode cX5_acceptName 47 = .ok (.iinc 2 1, 3) := dec_ii oX5_acceptName (of132 _) 2 1 rfl (sg8p rfl) rfl
theorem dX5_acceptName_50 : decode cX5_acceptName 50 = .ok (.goto (-40), 3) := dec_s2 oX5_acceptName (of167 _) 255 216 rfl (sg16n (k := 40) rfl) rfl
theorem dX5_acceptName_53 : decode cX5_acceptName 53 = .ok (.iload_n 1, 1) := dec_0 oX5_acceptName (of27 _) rfl
theorem dX5_acceptName_54 : decode cX5_acceptName 54 = .ok (.ifCond .lt 41, 3) := dec_s2 oX5_acceptName (of155 _) 0 41 rfl (sg16p rfl) rfl
theorem dX5_acceptName_57 : decode cX5_acceptName 57 = .ok (.iload_n 1, 1) := dec_0 oX5_acceptName (of27 _) rfl
theorem dX5_acceptName_58 : decode cX5_acceptName 58 = .ok (.iconst 5, 1) := dec_0 oX5_acceptName (of8 _) rfl
theorem dX5_acceptName_59 : decode cX5_acceptName 59 = .ok (.if_icmp .ge 36, 3) := dec_s2 oX5_acceptName (of162 _) 0 36 rfl (sg16p rfl) rfl
theorem dX5_acceptName_62 : decode cX5_acceptName 62 = .ok (.aload_n 0, 1) := dec_0 oX5_acceptName (of42 _) rfl
theorem dX5_acceptName_63 : decode cX5_acceptName 63 = .ok (.getfield 25, 3) := dec_2 oX5_acceptName (of180 _) 0 25 rfl rfl
theorem dX5_acceptName_66 : decode cX5_acceptName 66 = .ok (.iload_n 1, 1) := dec_0 oX5_acceptName (of27 _) rfl
theorem dX5_acceptName_67 : decode cX5_acceptName 67 = .ok (.aload_n 0, 1) := dec_0 oX5_acceptName (of42 _) rfl
theorem dX5_acceptName_68 : decode cX5_acceptName 68 = .ok (.getfield 42, 3) := dec_2 oX5_acceptName (of180 _) 0 42 rfl rfl
theorem dX5_acceptName_71 : decode cX5_acceptName 71 = .ok (.getfield 96, 3) := dec_2 oX5_acceptName (of180 _) 0 96 rfl rfl
theorem dX5_acceptName_74 : decode cX5_acceptName 74 = .ok (.iastore, 1) := dec_0 oX5_acceptName (of79 _) rfl
theorem dX5_acceptName_75 : decode cX5_acceptName 75 = .ok (.aload_n 0, 1) := dec_0 oX5_acceptName (of42 _) rfl
theorem dX5_acceptName_76 : decode cX5_acceptName 76 = .ok (.getfield 29, 3) := dec_2 oX5_acceptName (of180 _) 0 29 rfl rfl
theorem dX5_acceptName_79 : decode cX5_acceptName 79 = .ok (.iload_n 1, 1) := dec_0 oX5_acceptName (of27 _) rfl
theorem dX5_acceptName_80 : decode cX5_acceptName 80 = .ok (.aload_n 0, 1) := dec_0 oX5_acceptName (of42 _) rfl
theorem dX5_acceptName_81 : decode cX5_acceptName 81 = .ok (.getfield 42, 3) := dec_2 oX5_acceptName (of180 _) 0 42 rfl rfl
theorem dX5_acceptName_84 : decode cX5_acceptName 84 = .ok (.invokevirtual 184, 3) := dec_2 oX5_acceptName (of182 _) 0 184 rfl rfl
theorem dX5_acceptName_87 : decode cX5_acceptName 87 = .ok (.iastore, 1) := dec_0 oX5_acceptName (of79 _) rfl
theorem dX5_acceptName_88 : decode cX5_acceptName 88 = .ok (.aload_n 0, 1) := dec_0 oX5_acceptName (of42 _) rfl
theorem dX5_acceptName_89 : decode cX5_acceptName 89 = .ok (.getfield 21, 3) := dec_2 oX5_acceptName (of180 _) 0 21 rfl rfl
theorem dX5_acceptName_92 : decode cX5_acceptName 92 = .ok (.invokevirtual 187, 3) := dec_2 oX5_acceptName (of182 _) 0 187 rfl rfl
theorem dX5_acceptName_95 : decode cX5_acceptName 95 = .ok (.aload_n 0, 1) := dec_0 oX5_acceptName (of42 _) rfl
theorem dX5_acceptName_96 : decode cX5_acceptName 96 = .ok (.iconst 3, 1) := dec_0 oX5_acceptName (of6 _) rfl
theorem dX5_acceptName_97 : decode cX5_acceptName 97 = .ok (.putfield 75, 3) := dec_2 oX5_acceptName (of181 _) 0 75 rfl rfl
theorem dX5_acceptName_100 : decode cX5_acceptName 100 = .ok (.return_, 1) := dec_0 oX5_acceptName (of177 _) rfl
theorem dX5_acceptNumber_0 : decode cX5_acceptNumber 0 = .ok (.aload_n 0, 1) := dec_0 oX5_acceptNumber (of42 _) rfl
theorem dX5_acceptNumber_1 : decode cX5_acceptNumber 1 = .ok (.getfield 141, 3) := dec_2 oX5_acceptNumber (of180 _) 0 141 rfl rfl
theorem dX5_acceptNumber_4 : decode cX5_acceptNumber 4 = .ok (.aload_n 0, 1) := dec_0 oX5_acceptNumber (of42 _) rfl
theorem dX5_acceptNumber_5 : decode cX5_acceptNumber 5 = .ok (.getfield 42, 3) := dec_2 oX5_acceptNumber (of180 _) 0 42 rfl rfl
theorem dX5_acceptNumber_8 : decode cX5_acceptNumber 8 = .ok (.getfield 190, 3) := dec_2 oX5_acceptNumber (of180 _) 0 190 rfl rfl
theorem dX5_acceptNumber_11 : decode cX5_acceptNumber 11 = .ok (.invokestatic 193, 3) := dec_2 oX5_acceptNumber (of184 _) 0 193 rfl rfl
theorem dX5_acceptNumber_14 : decode cX5_acceptNumber 14 = .ok (.ifCond .ne 8, 3) := dec_s2 oX5_acceptNumber (of154 _) 0 8 rfl (sg16p rfl) rfl
theorem dX5_acceptNumber_17 : decode cX5_acceptNumber 17 = .ok (.aload_n 0, 1) := dec_0 oX5_acceptNumber (of42 _) rfl
theorem dX5_acceptNumber_18 : decode cX5_acceptNumber 18 = .ok (.iconst 5, 1) := dec_0 oX5_acceptNumber (of8 _) rfl
theorem dX5_acceptNumber_19 : decode cX5_acceptNumber 19 = .ok (.invokevirtual 181, 3) := dec_2 oX5_acceptNumber (of182 _) 0 181 rfl rfl
theorem dX5_acceptNumber_22 : decode cX5_acceptNumber 22 = .ok (.aload_n 0, 1) := dec_0 oX5_acceptNumber (of42 _) rfl
theorem dX5_acceptNumber_23 : decode cX5_acceptNumber 23 = .ok (.getfield 12, 3) := dec_2 oX5_acceptNumber (of180 _) 0 12 rfl rfl
theorem dX5_acceptNumber_26 : decode cX5_acceptNumber 26 = .ok (.getfield 137, 3) := dec_2 oX5_acceptNumber (of180 _) 0 137 rfl rfl
theorem dX5_acceptNumber_29 : decode cX5_acceptNumber 29 = .ok (.aload_n 0, 1) := dec_0 oX5_acceptNumber (of42 _) rfl
theorem dX5_acceptNumber_30 : decode cX5_acceptNumber 30 = .ok (.getfield 141, 3) := dec_2 oX5_acceptNumber (of180 _) 0 141 rfl rfl
theorem dX5_acceptNumber_33 : decode cX5_acceptNumber 33 = .ok (.aload_n 0, 1) := dec_0 oX5_acceptNumber (of42 _) rfl
theorem dX5_acceptNumber_34 : decode cX5_acceptNumber 34 = .ok (.getfield 42, 3) := dec_2 oX5_acceptNumber (of180 _) 0 42 rfl rfl
theorem dX5_acceptNumber_37 : decode cX5_acceptNumber 37 = .ok (.getfield 190, 3) := dec_2 oX5_acceptNumber (of180 _) 0 190 rfl rfl
theorem dX5_acceptNumber_40 : decode cX5_acceptNumber 40 = .ok (.invokevirtual 144, 3) := dec_2 oX5_acceptNumber (of182 _) 0 144 rfl rfl
theorem dX5_acceptNumber_43 : decode cX5_acceptNumber 43 = .ok (.aload_n 0, 1) := dec_0 oX5_acceptNumber (of42 _) rfl
theorem dX5_acceptNumber_44 : decode cX5_acceptNumber 44 = .ok (.bipush 6, 2) := dec_s1 oX5_acceptNumber (of16 _) 6 rfl (sg8p rfl) rfl
theorem dX5_acceptNumber_46 : decode cX5_acceptNumber 46 = .ok (.putfield 75, 3) := dec_2 oX5_acceptNumber (of181 _) 0 75 rfl rfl
theorem dX5_acceptNumber_49 : decode cX5_acceptNumber 49 = .ok (.return_, 1) := dec_0 oX5_acceptNumber (of177 _) rfl
theorem dX5_acceptInRow_0 : decode cX5_acceptInRow 0 = .ok (.aload_n 0, 1) := dec_0 oX5_acceptInRow (of42 _) rfl
theorem dX5_acceptInRow_1 : decode cX5_acceptInRow 1 = .ok (.getfield 42, 3) := dec_2 oX5_acceptInRow (of180 _) 0 42 rfl rfl
theorem dX5_acceptInRow_4 : decode cX5_acceptInRow 4 = .ok (.getfield 53, 3) := dec_2 oX5_acceptInRow (of180 _) 0 53 rfl rfl
theorem dX5_acceptInRow_7 : decode cX5_acceptInRow 7 = .ok (.iconst 3, 1) := dec_0 oX5_acceptInRow (of6 _) rfl
theorem dX5_acceptInRow_8 : decode cX5_acceptInRow 8 = .ok (.if_icmp .ne 39, 3) := dec_s2 oX5_acceptInRow (of160 _) 0 39 rfl (sg16p rfl) rfl
theorem dX5_acceptInRow_11 : decode cX5_acceptInRow 11 = .ok (.aload_n 0, 1) := dec_0 oX5_acceptInRow (of42 _) rfl
theorem dX5_acceptInRow_12 : decode cX5_acceptInRow 12 = .ok (.getfield 75, 3) := dec_2 oX5_acceptInRow (of180 _) 0 75 rfl rfl
theorem dX5_acceptInRow_15 : decode cX5_acceptInRow 15 = .ok (.iconst 3, 1) := dec_0 oX5_acceptInRow (of6 _) rfl
theorem dX5_acceptInRow_16 : decode cX5_acceptInRow 16 = .ok (.if_icmp .ne 17, 3) := dec_s2 oX5_acceptInRow (of160 _) 0 17 rfl (sg16p rfl) rfl
theorem dX5_acceptInRow_19 : decode cX5_acceptInRow 19 = .ok (.aload_n 0, 1) := dec_0 oX5_acceptInRow (of42 _) rfl
theorem dX5_acceptInRow_20 : decode cX5_acceptInRow 20 = .ok (.getfield 32, 3) := dec_2 oX5_acceptInRow (of180 _) 0 32 rfl rfl
theorem dX5_acceptInRow_23 : decode cX5_acceptInRow 23 = .ok (.iconst 2, 1) := dec_0 oX5_acceptInRow (of5 _) rfl
theorem dX5_acceptInRow_24 : decode cX5_acceptInRow 24 = .ok (.if_icmp .ge 9, 3) := dec_s2 oX5_acceptInRow (of162 _) 0 9 rfl (sg16p rfl) rfl
theorem dX5_acceptInRow_27 : decode cX5_acceptInRow 27 = .ok (.aload_n 0, 1) := dec_0 oX5_acceptInRow (of42 _) rfl
theorem dX5_acceptInRow_28 : decode cX5_acceptInRow 28 = .ok (.bipush 6, 2) := dec_s1 oX5_acceptInRow (of16 _) 6 rfl (sg8p rfl) rfl
theorem dX5_acceptInRow_30 : decode cX5_acceptInRow 30 = .ok (.invokevirtual 181, 3) := dec_2 oX5_acceptInRow (of182 _) 0 181 rfl rfl
theorem dX5_acceptInRow_33 : decode cX5_acceptInRow 33 = .ok (.aload_n 0, 1) := dec_0 oX5_acceptInRow (of42 _) rfl
theorem dX5_acceptInRow_34 : decode cX5_acceptInRow 34 = .ok (.iconst 0, 1) := dec_0 oX5_acceptInRow (of3 _) rfl
theorem dX5_acceptInRow_35 : decode cX5_acceptInRow 35 = .ok (.putfield 75, 3) := dec_2 oX5_acceptInRow (of181 _) 0 75 rfl rfl
theorem dX5_acceptInRow_38 : decode cX5_acceptInRow 38 = .ok (.aload_n 0, 1) := dec_0 oX5_acceptInRow (of42 _) rfl
theorem dX5_acceptInRow_39 : decode cX5_acceptInRow 39 = .ok (.bipush (-2), 2) := dec_s1 oX5_acceptInRow (of16 _) 254 rfl (sg8n (k := 2) rfl) rfl
theorem dX5_acceptInRow_41 : decode cX5_acceptInRow 41 = .ok (.putfield 32, 3) := dec_2 oX5_acceptInRow (of181 _) 0 32 rfl rfl
theorem dX5_acceptInRow_44 : decode cX5_acceptInRow 44 = .ok (.goto 90, 3) := dec_s2 oX5_acceptInRow (of167 _) 0 90 rfl (sg16p rfl) rfl
theorem dX5_acceptInRow_47 : decode cX5_acceptInRow 47 = .ok (.aload_n 0, 1) := dec_0 oX5_acceptInRow (of42 _) rfl
theorem dX5_acceptInRow_48 : decode cX5_acceptInRow 48 = .ok (.getfield 42, 3) := dec_2 oX5_acceptInRow (of180 _) 0 42 rfl rfl
theorem dX5_acceptInRow_51 : decode cX5_acceptInRow 51 = .ok (.getfield 53, 3) := dec_2 oX5_acceptInRow (of180 _) 0 53 rfl rfl
theorem dX5_acceptInRow_54 : decode cX5_acceptInRow 54 = .ok (.iconst 4, 1) := dec_0 oX5_acceptInRow (of7 _) rfl
theorem dX5_acceptInRow_55 : decode cX5_acceptInRow 55 = .ok (.if_icmp .ne 11, 3) := dec_s2 oX5_acceptInRow (of160 _) 0 11 rfl (sg16p rfl) rfl
theorem dX5_acceptInRow_58 : decode cX5_acceptInRow 58 = .ok (.aload_n 0, 1) := dec_0 oX5_acceptInRow (of42 _) rfl
theorem dX5_acceptInRow_59 : decode cX5_acceptInRow 59 = .ok (.iconst 1, 1) := dec_0 oX5_acceptInRow (of4 _) rfl
theorem dX5_acceptInRow_60 : decode cX5_acceptInRow 60 = .ok (.putfield 87, 3) := dec_2 oX5_acceptInRow (of181 _) 0 87 rfl rfl
theorem dX5_acceptInRow_63 : decode cX5_acceptInRow 63 = .ok (.goto 71, 3) := dec_s2 oX5_acceptInRow (of167 _) 0 71 rfl (sg16p rfl) rfl
theorem dX5_acceptInRow_66 : decode cX5_acceptInRow 66 = .ok (.aload_n 0, 1) := dec_0 oX5_acceptInRow (of42 _) rfl
theorem dX5_acceptInRow_67 : decode cX5_acceptInRow 67 = .ok (.getfield 42, 3) := dec_2 oX5_acceptInRow (of180 _) 0 42 rfl rfl
theorem dX5_acceptInRow_70 : decode cX5_acceptInRow 70 = .ok (.getfield 53, 3) := dec_2 oX5_acceptInRow (of180 _) 0 53 rfl rfl
theorem dX5_acceptInRow_73 : decode cX5_acceptInRow 73 = .ok (.iconst 2, 1) := dec_0 oX5_acceptInRow (of5 _) rfl
theorem dX5_acceptInRow_74 : decode cX5_acceptInRow 74 = .ok (.if_icmp .ne 53, 3) := dec_s2 oX5_acceptInRow (of160 _) 0 53 rfl (sg16p rfl) rfl
theorem dX5_acceptInRow_77 : decode cX5_acceptInRow 77 = .ok (.aload_n 0, 1) := dec_0 oX5_acceptInRow (of42 _) rfl
theorem dX5_acceptInRow_78 : decode cX5_acceptInRow 78 = .ok (.getfield 42, 3) := dec_2 oX5_acceptInRow (of180 _) 0 42 rfl rfl
theorem dX5_acceptInRow_81 : decode cX5_acceptInRow 81 = .ok (.getfield 190, 3) := dec_2 oX5_acceptInRow (of180 _) 0 190 rfl rfl
theorem dX5_acceptInRow_84 : decode cX5_acceptInRow 84 = .ok (.sipush 999, 3) := dec_s2 oX5_acceptInRow (of17 _) 3 231 rfl (sg16p rfl) rfl
theorem dX5_acceptInRow_87 : decode cX5_acceptInRow 87 = .ok (.if_icmp .le 8, 3) := dec_s2 oX5_acceptInRow (of164 _) 0 8 rfl (sg16p rfl) rfl
theorem dX5_acceptInRow_90 : decode cX5_acceptInRow 90 = .ok (.aload_n 0, 1) := dec_0 oX5_acceptInRow (of42 _) rfl
theorem dX5_acceptInRow_91 : decode cX5_acceptInRow 91 = .ok (.iconst 5, 1) := dec_0 oX5_acceptInRow (of8 _) rfl
theorem dX5_acceptInRow_92 : decode cX5_acceptInRow 92 = .ok (.invokevirtual 181, 3) := dec_2 oX5_acceptInRow (of182 _) 0 181 rfl rfl
theorem dX5_acceptInRow_95 : decode cX5_acceptInRow 95 = .ok (.aload_n 0, 1) := dec_0 oX5_acceptInRow (of42 _) rfl
theorem dX5_acceptInRow_96 : decode cX5_acceptInRow 96 = .ok (.aload_n 0, 1) := dec_0 oX5_acceptInRow (of42 _) rfl
theorem dX5_acceptInRow_97 : decode cX5_acceptInRow 97 = .ok (.getfield 87, 3) := dec_2 oX5_acceptInRow (of180 _) 0 87 rfl rfl
theorem dX5_acceptInRow_100 : decode cX5_acceptInRow 100 = .ok (.ifCond .eq 14, 3) := dec_s2 oX5_acceptInRow (of153 _) 0 14 rfl (sg16p rfl) rfl
theorem dX5_acceptInRow_103 : decode cX5_acceptInRow 103 = .ok (.aload_n 0, 1) := dec_0 oX5_acceptInRow (of42 _) rfl
theorem dX5_acceptInRow_104 : decode cX5_acceptInRow 104 = .ok (.getfield 42, 3) := dec_2 oX5_acceptInRow (of180 _) 0 42 rfl rfl
theorem dX5_acceptInRow_107 : decode cX5_acceptInRow 107 = .ok (.getfield 190, 3) := dec_2 oX5_acceptInRow (of180 _) 0 190 rfl rfl
theorem dX5_acceptInRow_110 : decode cX5_acceptInRow 110 = .ok (.ineg, 1) := dec_0 oX5_acceptInRow (of116 _) rfl
theorem dX5_acceptInRow_111 : decode cX5_acceptInRow 111 = .ok (.goto 10, 3) := dec_s2 oX5_acceptInRow (of167 _) 0 10 rfl (sg16p rfl) rfl
theorem dX5_acceptInRow_114 : decode cX5_acceptInRow 114 = .ok (.aload_n 0, 1) := dec_0 oX5_acceptInRow (of42 _) rfl
theorem dX5_acceptInRow_115 : decode cX5_acceptInRow 115 = .ok (.getfield 42, 3) := dec_2 oX5_acceptInRow (of180 _) 0 42 rfl rfl
theorem dX5_acceptInRow_118 : decode cX5_acceptInRow 118 = .ok (.getfield 190, 3) := dec_2 oX5_acceptInRow (of180 _) 0 190 rfl rfl
theorem dX5_acceptInRow_121 : decode cX5_acceptInRow 121 = .ok (.invokevirtual 196, 3) := dec_2 oX5_acceptInRow (of182 _) 0 196 rfl rfl
theorem dX5_acceptInRow_124 : decode cX5_acceptInRow 124 = .ok (.goto 10, 3) := dec_s2 oX5_acceptInRow (of167 _) 0 10 rfl (sg16p rfl) rfl
theorem dX5_acceptInRow_127 : decode cX5_acceptInRow 127 = .ok (.aload_n 0, 1) := dec_0 oX5_acceptInRow (of42 _) rfl
theorem dX5_acceptInRow_128 : decode cX5_acceptInRow 128 = .ok (.sipush (-1000), 3) := dec_s2 oX5_acceptInRow (of17 _) 252 24 rfl (sg16n (k := 1000) rfl) rfl
theorem dX5_acceptInRow_131 : decode cX5_acceptInRow 131 = .ok (.invokevirtual 196, 3) := dec_2 oX5_acceptInRow (of182 _) 0 196 rfl rfl
theorem dX5_acceptInRow_134 : decode cX5_acceptInRow 134 = .ok (.return_, 1) := dec_0 oX5_acceptInRow (of177 _) rfl
theorem dX5_keepInRow_0 : decode cX5_keepInRow 0 = .ok (.aload_n 0, 1) := dec_0 oX5_keepInRow (of42 _) rfl
theorem dX5_keepInRow_1 : decode cX5_keepInRow 1 = .ok (.getfield 75, 3) := dec_2 oX5_keepInRow (of180 _) 0 75 rfl rfl
theorem dX5_keepInRow_4 : decode cX5_keepInRow 4 = .ok (.iconst 1, 1) := dec_0 oX5_keepInRow (of4 _) rfl
theorem dX5_keepInRow_5 : decode cX5_keepInRow 5 = .ok (.if_icmp .ne 14, 3) := dec_s2 oX5_keepInRow (of160 _) 0 14 rfl (sg16p rfl) rfl
theorem dX5_keepInRow_8 : decode cX5_keepInRow 8 = .ok (.aload_n 0, 1) := dec_0 oX5_keepInRow (of42 _) rfl
theorem dX5_keepInRow_9 : decode cX5_keepInRow 9 = .ok (.getfield 12, 3) := dec_2 oX5_keepInRow (of180 _) 0 12 rfl rfl
theorem dX5_keepInRow_12 : decode cX5_keepInRow 12 = .ok (.iload_n 1, 1) := dec_0 oX5_keepInRow (of27 _) rfl
theorem dX5_keepInRow_13 : decode cX5_keepInRow 13 = .ok (.invokevirtual 199, 3) := dec_2 oX5_keepInRow (of182 _) 0 199 rfl rfl
theorem dX5_keepInRow_16 : decode cX5_keepInRow 16 = .ok (.goto 11, 3) := dec_s2 oX5_keepInRow (of167 _) 0 11 rfl (sg16p rfl) rfl
theorem dX5_keepInRow_19 : decode cX5_keepInRow 19 = .ok (.aload_n 0, 1) := dec_0 oX5_keepInRow (of42 _) rfl
theorem dX5_keepInRow_20 : decode cX5_keepInRow 20 = .ok (.getfield 21, 3) := dec_2 oX5_keepInRow (of180 _) 0 21 rfl rfl
theorem dX5_keepInRow_23 : decode cX5_keepInRow 23 = .ok (.iload_n 1, 1) := dec_0 oX5_keepInRow (of27 _) rfl
theorem dX5_keepInRow_24 : decode cX5_keepInRow 24 = .ok (.invokevirtual 202, 3) := dec_2 oX5_keepInRow (of182 _) 0 202 rfl rfl
theorem dX5_keepInRow_27 : decode cX5_keepInRow 27 = .ok (.aload_n 0, 1) := dec_0 oX5_keepInRow (of42 _) rfl
theorem dX5_keepInRow_28 : decode cX5_keepInRow 28 = .ok (.dup, 1) := dec_0 oX5_keepInRow (of89 _) rfl
theorem dX5_keepInRow_29 : decode cX5_keepInRow 29 = .ok (.getfield 32, 3) := dec_2 oX5_keepInRow (of180 _) 0 32 rfl rfl
theorem dX5_keepInRow_32 : decode cX5_keepInRow 32 = .ok (.iconst 1, 1) := dec_0 oX5_keepInRow (of4 _) rfl
theorem dX5_keepInRow_33 : decode cX5_keepInRow 33 = .ok (.iadd, 1) := dec_0 oX5_keepInRow (of96 _) rfl
theorem dX5_keepInRow_34 : decode cX5_keepInRow 34 = .ok (.putfield 32, 3) := dec_2 oX5_keepInRow (of181 _) 0 32 rfl rfl
theorem dX5_keepInRow_37 : decode cX5_keepInRow 37 = .ok (.aload_n 0, 1) := dec_0 oX5_keepInRow (of42 _) rfl
theorem dX5_keepInRow_38 : decode cX5_keepInRow 38 = .ok (.iconst 0, 1) := dec_0 oX5_keepInRow (of3 _) rfl
theorem dX5_keepInRow_39 : decode cX5_keepInRow 39 = .ok (.putfield 87, 3) := dec_2 oX5_keepInRow (of181 _) 0 87 rfl rfl
theorem dX5_keepInRow_42 : decode cX5_keepInRow 42 = .ok (.return_, 1) := dec_0 oX5_keepInRow (of177 _) rfl
theorem dX6_takeFrom_20 : decode cX6_takeFrom 20 = .ok (.aload_n 0, 1) := dec_0 oX6_takeFrom (of42 _) rfl
theorem dX6_takeFrom_21 : decode cX6_takeFrom 21 = .ok (.aload_n 1, 1) := dec_0 oX6_takeFrom (of43 _) rfl
theorem dX6_takeFrom_22 : decode cX6_takeFrom 22 = .ok (.iload_n 2, 1) := dec_0 oX6_takeFrom (of28 _) rfl
theorem dX6_takeFrom_23 : decode cX6_takeFrom 23 = .ok (.invokevirtual 25, 3) := dec_2 oX6_takeFrom (of182 _) 0 25 rfl rfl
theorem dX6_takeFrom_26 : decode cX6_takeFrom 26 = .ok (.invokevirtual 29, 3) := dec_2 oX6_takeFrom (of182 _) 0 29 rfl rfl
theorem dX6_takeFrom_29 : decode cX6_takeFrom 29 = .ok (.pop, 1) := dec_0 oX6_takeFrom (of87 _) rfl
theorem dX6_takeFrom_30 : decode cX6_takeFrom 30 = .ok (.iinc 2 1, 3) := dec_ii oX6_takeFrom (of132 _) 2 1 rfl (sg8p rfl) rfl
theorem dX6_takeFrom_33 : decode cX6_takeFrom 33 = .ok (.goto (-21), 3) := dec_s2 oX6_takeFrom (of167 _) 255 235 rfl (sg16n (k := 21) rfl) rfl
theorem dX6_copyInto_15 : decode cX6_copyInto 15 = .ok (.aload_n 1, 1) := dec_0 oX6_copyInto (of43 _) rfl
theorem dX6_copyInto_16 : decode cX6_copyInto 16 = .ok (.aload_n 0, 1) := dec_0 oX6_copyInto (of42 _) rfl
theorem dX6_copyInto_17 : decode cX6_copyInto 17 = .ok (.iload_n 2, 1) := dec_0 oX6_copyInto (of28 _) rfl
theorem dX6_copyInto_18 : decode cX6_copyInto 18 = .ok (.invokevirtual 33, 3) := dec_2 oX6_copyInto (of182 _) 0 33 rfl rfl
theorem dX6_copyInto_21 : decode cX6_copyInto 21 = .ok (.invokevirtual 34, 3) := dec_2 oX6_copyInto (of182 _) 0 34 rfl rfl
theorem dX6_copyInto_24 : decode cX6_copyInto 24 = .ok (.iinc 2 1, 3) := dec_ii oX6_copyInto (of132 _) 2 1 rfl (sg8p rfl) rfl
theorem dX6_copyInto_27 : decode cX6_copyInto 27 = .ok (.goto (-20), 3) := dec_s2 oX6_copyInto (of167 _) 255 236 rfl (sg16n (k := 20) rfl) rfl
theorem dX6_valueAt_12 : decode cX6_valueAt 12 = .ok (.aload_n 0, 1) := dec_0 oX6_valueAt (of42 _) rfl
theorem dX6_valueAt_13 : decode cX6_valueAt 13 = .ok (.getfield 11, 3) := dec_2 oX6_valueAt (of180 _) 0 11 rfl rfl
theorem dX6_valueAt_16 : decode cX6_valueAt 16 = .ok (.aload_n 0, 1) := dec_0 oX6_valueAt (of42 _) rfl
theorem dX6_valueAt_17 : decode cX6_valueAt 17 = .ok (.getfield 15, 3) := dec_2 oX6_valueAt (of180 _) 0 15 rfl rfl
theorem dX6_valueAt_20 : decode cX6_valueAt 20 = .ok (.iload_n 1, 1) := dec_0 oX6_valueAt (of27 _) rfl
theorem dX6_valueAt_21 : decode cX6_valueAt 21 = .ok (.iadd, 1) := dec_0 oX6_valueAt (of96 _) rfl
theorem dX6_valueAt_22 : decode cX6_valueAt 22 = .ok (.sipush 255, 3) := dec_s2 oX6_valueAt (of17 _) 0 255 rfl (sg16p rfl) rfl
theorem dX6_valueAt_25 : decode cX6_valueAt 25 = .ok (.iand, 1) := dec_0 oX6_valueAt (of126 _) rfl
theorem dX6_valueAt_26 : decode cX6_valueAt 26 = .ok (.iaload, 1) := dec_0 oX6_valueAt (of46 _) rfl
theorem dX6_valueAt_27 : decode cX6_valueAt 27 = .ok (.goto 6, 3) := dec_s2 oX6_valueAt (of167 _) 0 6 rfl (sg16p rfl) rfl
theorem dX6_putAt_0 : decode cX6_putAt 0 = .ok (.iload_n 1, 1) := dec_0 oX6_putAt (of27 _) rfl
theorem dX6_putAt_1 : decode cX6_putAt 1 = .ok (.ifCond .lt 27, 3) := dec_s2 oX6_putAt (of155 _) 0 27 rfl (sg16p rfl) rfl
theorem dX6_putAt_4 : decode cX6_putAt 4 = .ok (.iload_n 1, 1) := dec_0 oX6_putAt (of27 _) rfl
theorem dX6_putAt_5 : decode cX6_putAt 5 = .ok (.aload_n 0, 1) := dec_0 oX6_putAt (of42 _) rfl
theorem dX6_putAt_6 : decode cX6_putAt 6 = .ok (.getfield 19, 3) := dec_2 oX6_putAt (of180 _) 0 19 rfl rfl
theorem dX6_putAt_9 : decode cX6_putAt 9 = .ok (.if_icmp .ge 19, 3) := dec_s2 oX6_putAt (of162 _) 0 19 rfl (sg16p rfl) rfl
theorem dX6_putAt_12 : decode cX6_putAt 12 = .ok (.aload_n 0, 1) := dec_0 oX6_putAt (of42 _) rfl
theorem dX6_putAt_13 : decode cX6_putAt 13 = .ok (.getfield 11, 3) := dec_2 oX6_putAt (of180 _) 0 11 rfl rfl
theorem dX6_putAt_16 : decode cX6_putAt 16 = .ok (.aload_n 0, 1) := dec_0 oX6_putAt (of42 _) rfl
theorem dX6_putAt_17 : decode cX6_putAt 17 = .ok (.getfield 15, 3) := dec_2 oX6_putAt (of180 _) 0 15 rfl rfl
theorem dX6_putAt_20 : decode cX6_putAt 20 = .ok (.iload_n 1, 1) := dec_0 oX6_putAt (of27 _) rfl
theorem dX6_putAt_21 : decode cX6_putAt 21 = .ok (.iadd, 1) := dec_0 oX6_putAt (of96 _) rfl
theorem dX6_putAt_22 : decode cX6_putAt 22 = .ok (.sipush 255, 3) := dec_s2 oX6_putAt (of17 _) 0 255 rfl (sg16p rfl) rfl
theorem dX6_putAt_25 : decode cX6_putAt 25 = .ok (.iand, 1) := dec_0 oX6_putAt (of126 _) rfl
theorem dX6_putAt_26 : decode cX6_putAt 26 = .ok (.iload_n 2, 1) := dec_0 oX6_putAt (of28 _) rfl
theorem dX6_putAt_27 : decode cX6_putAt 27 = .ok (.iastore, 1) := dec_0 oX6_putAt (of79 _) rfl
theorem dX6_putAt_28 : decode cX6_putAt 28 = .ok (.return_, 1) := dec_0 oX6_putAt (of177 _) rfl
theorem dX6_append_10 : decode cX6_append 10 = .ok (.iconst 0, 1) := dec_0 oX6_append (of3 _) rfl
theorem dX6_append_11 : decode cX6_append 11 = .ok (.ireturn, 1) := dec_0 oX6_append (of172 _) rfl
theorem dX6_cutLast_0 : decode cX6_cutLast 0 = .ok (.aload_n 0, 1) := dec_0 oX6_cutLast (of42 _) rfl
theorem dX6_cutLast_1 : decode cX6_cutLast 1 = .ok (.getfield 19, 3) := dec_2 oX6_cutLast (of180 _) 0 19 rfl rfl
theorem dX6_cutLast_4 : decode cX6_cutLast 4 = .ok (.ifCond .le 13, 3) := dec_s2 oX6_cutLast (of158 _) 0 13 rfl (sg16p rfl) rfl
theorem dX6_cutLast_7 : decode cX6_cutLast 7 = .ok (.aload_n 0, 1) := dec_0 oX6_cutLast (of42 _) rfl
theorem dX6_cutLast_8 : decode cX6_cutLast 8 = .ok (.dup, 1) := dec_0 oX6_cutLast (of89 _) rfl
theorem dX6_cutLast_9 : decode cX6_cutLast 9 = .ok (.getfield 19, 3) := dec_2 oX6_cutLast (of180 _) 0 19 rfl rfl
theorem dX6_cutLast_12 : decode cX6_cutLast 12 = .ok (.iconst 1, 1) := dec_0 oX6_cutLast (of4 _) rfl
theorem dX6_cutLast_13 : decode cX6_cutLast 13 = .ok (.isub, 1) := dec_0 oX6_cutLast (of100 _) rfl
theorem dX6_cutLast_14 : decode cX6_cutLast 14 = .ok (.putfield 19, 3) := dec_2 oX6_cutLast (of181 _) 0 19 rfl rfl
theorem dX6_cutLast_17 : decode cX6_cutLast 17 = .ok (.return_, 1) := dec_0 oX6_cutLast (of177 _) rfl
theorem dX6_cutFirst_15 : decode cX6_cutFirst 15 = .ok (.aload_n 0, 1) := dec_0 oX6_cutFirst (of42 _) rfl
theorem dX6_cutFirst_16 : decode cX6_cutFirst 16 = .ok (.aload_n 0, 1) := dec_0 oX6_cutFirst (of42 _) rfl
theorem dX6_cutFirst_17 : decode cX6_cutFirst 17 = .ok (.getfield 15, 3) := dec_2 oX6_cutFirst (of180 _) 0 15 rfl rfl
theorem dX6_cutFirst_20 : decode cX6_cutFirst 20 = .ok (.iload_n 1, 1) := dec_0 oX6_cutFirst (of27 _) rfl
theorem dX6_cutFirst_21 : decode cX6_cutFirst 21 = .ok (.iadd, 1) := dec_0 oX6_cutFirst (of96 _) rfl
theorem dX6_cutFirst_22 : decode cX6_cutFirst 22 = .ok (.sipush 255, 3) := dec_s2 oX6_cutFirst (of17 _) 0 255 rfl (sg16p rfl) rfl
theorem dX6_cutFirst_25 : decode cX6_cutFirst 25 = .ok (.iand, 1) := dec_0 oX6_cutFirst (of126 _) rfl
theorem dX6_cutFirst_26 : decode cX6_cutFirst 26 = .ok (.putfield 15, 3) := dec_2 oX6_cutFirst (of181 _) 0 15 rfl rfl
theorem dX6_cutFirst_29 : decode cX6_cutFirst 29 = .ok (.aload_n 0, 1) := dec_0 oX6_cutFirst (of42 _) rfl
theorem dX6_cutFirst_30 : decode cX6_cutFirst 30 = .ok (.dup, 1) := dec_0 oX6_cutFirst (of89 _) rfl
theorem dX6_cutFirst_31 : decode cX6_cutFirst 31 = .ok (.getfield 19, 3) := dec_2 oX6_cutFirst (of180 _) 0 19 rfl rfl
theorem dX6_cutFirst_34 : decode cX6_cutFirst 34 = .ok (.iload_n 1, 1) := dec_0 oX6_cutFirst (of27 _) rfl
theorem dX6_cutFirst_35 : decode cX6_cutFirst 35 = .ok (.isub, 1) := dec_0 oX6_cutFirst (of100 _) rfl
theorem dX6_cutFirst_36 : decode cX6_cutFirst 36 = .ok (.putfield 19, 3) := dec_2 oX6_cutFirst (of181 _) 0 19 rfl rfl
theorem dX6_cutFirst_39 : decode cX6_cutFirst 39 = .ok (.iconst 1, 1) := dec_0 oX6_cutFirst (of4 _) rfl
theorem dX6_cutFirst_40 : decode cX6_cutFirst 40 = .ok (.ireturn, 1) := dec_0 oX6_cutFirst (of172 _) rfl
theorem dX6_bringBackFirst_0 : decode cX6_bringBackFirst 0 = .ok (.iload_n 1, 1) := dec_0 oX6_bringBackFirst (of27 _) rfl
theorem dX6_bringBackFirst_1 : decode cX6_bringBackFirst 1 = .ok (.iconst 1, 1) := dec_0 oX6_bringBackFirst (of4 _) rfl
theorem dX6_bringBackFirst_2 : decode cX6_bringBackFirst 2 = .ok (.if_icmp .lt 39, 3) := dec_s2 oX6_bringBackFirst (of161 _) 0 39 rfl (sg16p rfl) rfl
theorem dX6_bringBackFirst_5 : decode cX6_bringBackFirst 5 = .ok (.iload_n 1, 1) := dec_0 oX6_bringBackFirst (of27 _) rfl
theorem dX6_bringBackFirst_6 : decode cX6_bringBackFirst 6 = .ok (.sipush 160, 3) := dec_s2 oX6_bringBackFirst (of17 _) 0 160 rfl (sg16p rfl) rfl
theorem dX6_bringBackFirst_9 : decode cX6_bringBackFirst 9 = .ok (.aload_n 0, 1) := dec_0 oX6_bringBackFirst (of42 _) rfl
theorem dX6_bringBackFirst_10 : decode cX6_bringBackFirst 10 = .ok (.getfield 19, 3) := dec_2 oX6_bringBackFirst (of180 _) 0 19 rfl rfl
theorem dX6_bringBackFirst_13 : decode cX6_bringBackFirst 13 = .ok (.isub, 1) := dec_0 oX6_bringBackFirst (of100 _) rfl
theorem dX6_bringBackFirst_14 : decode cX6_bringBackFirst 14 = .ok (.if_icmp .gt 27, 3) := dec_s2 oX6_bringBackFirst (of163 _) 0 27 rfl (sg16p rfl) rfl
theorem dX6_bringBackFirst_17 : decode cX6_bringBackFirst 17 = .ok (.aload_n 0, 1) := dec_0 oX6_bringBackFirst (of42 _) rfl
theorem dX6_bringBackFirst_18 : decode cX6_bringBackFirst 18 = .ok (.aload_n 0, 1) := dec_0 oX6_bringBackFirst (of42 _) rfl
theorem dX6_bringBackFirst_19 : decode cX6_bringBackFirst 19 = .ok (.getfield 15, 3) := dec_2 oX6_bringBackFirst (of180 _) 0 15 rfl rfl
theorem dX6_bringBackFirst_22 : decode cX6_bringBackFirst 22 = .ok (.iload_n 1, 1) := dec_0 oX6_bringBackFirst (of27 _) rfl
theorem dX6_bringBackFirst_23 : decode cX6_bringBackFirst 23 = .ok (.isub, 1) := dec_0 oX6_bringBackFirst (of100 _) rfl
theorem dX6_bringBackFirst_24 : decode cX6_bringBackFirst 24 = .ok (.sipush 255, 3) := dec_s2 oX6_bringBackFirst (of17 _) 0 255 rfl (sg16p rfl) rfl
theorem dX6_bringBackFirst_27 : decode cX6_bringBackFirst 27 = .ok (.iand, 1) := dec_0 oX6_bringBackFirst (of126 _) rfl
theorem dX6_bringBackFirst_28 : decode cX6_bringBackFirst 28 = .ok (.putfield 15, 3) := dec_2 oX6_bringBackFirst (of181 _) 0 15 rfl rfl
theorem dX6_bringBackFirst_31 : decode cX6_bringBackFirst 31 = .ok (.aload_n 0, 1) := dec_0 oX6_bringBackFirst (of42 _) rfl
theorem dX6_bringBackFirst_32 : decode cX6_bringBackFirst 32 = .ok (.dup, 1) := dec_0 oX6_bringBackFirst (of89 _) rfl
theorem dX6_bringBackFirst_33 : decode cX6_bringBackFirst 33 = .ok (.getfield 19, 3) := dec_2 oX6_bringBackFirst (of180 _) 0 19 rfl rfl
theorem dX6_bringBackFirst_36 : decode cX6_bringBackFirst 36 = .ok (.iload_n 1, 1) := dec_0 oX6_bringBackFirst (of27 _) rfl
theorem dX6_bringBackFirst_37 : decode cX6_bringBackFirst 37 = .ok (.iadd, 1) := dec_0 oX6_bringBackFirst (of96 _) rfl
theorem dX6_bringBackFirst_38 : decode cX6_bringBackFirst 38 = .ok (.putfield 19, 3) := dec_2 oX6_bringBackFirst (of181 _) 0 19 rfl rfl
theorem dX6_bringBackFirst_41 : decode cX6_bringBackFirst 41 = .ok (.return_, 1) := dec_0 oX6_bringBackFirst (of177 _) rfl
theorem dX6_hasReading_0 : decode cX6_hasReading 0 = .ok (.aload_n 0, 1) := dec_0 oX6_hasReading (of42 _) rfl
theorem dX6_hasReading_1 : decode cX6_hasReading 1 = .ok (.iload_n 1, 1) := dec_0 oX6_hasReading (of27 _) rfl
theorem dX6_hasReading_2 : decode cX6_hasReading 2 = .ok (.invokevirtual 33, 3) := dec_2 oX6_hasReading (of182 _) 0 33 rfl rfl
theorem dX6_hasReading_5 : decode cX6_hasReading 5 = .ok (.sipush (-1000), 3) := dec_s2 oX6_hasReading (of17 _) 252 24 rfl (sg16n (k := 1000) rfl) rfl
theorem dX6_hasReading_8 : decode cX6_hasReading 8 = .ok (.if_icmp .eq 7, 3) := dec_s2 oX6_hasReading (of159 _) 0 7 rfl (sg16p rfl) rfl
theorem dX6_hasReading_11 : decode cX6_hasReading 11 = .ok (.iconst 1, 1) := dec_0 oX6_hasReading (of4 _) rfl
theorem dX6_hasReading_12 : decode cX6_hasReading 12 = .ok (.goto 4, 3) := dec_s2 oX6_hasReading (of167 _) 0 4 rfl (sg16p rfl) rfl
theorem dX6_hasReading_15 : decode cX6_hasReading 15 = .ok (.iconst 0, 1) := dec_0 oX6_hasReading (of3 _) rfl
theorem dX6_hasReading_16 : decode cX6_hasReading 16 = .ok (.ireturn, 1) := dec_0 oX6_hasReading (of172 _) rfl
theorem dX6_hasWindow_12 : decode cX6_hasWindow 12 = .ok (.iload_n 2, 1) := dec_0 oX6_hasWindow (of28 _) rfl
theorem dX6_hasWindow_13 : decode cX6_hasWindow 13 = .ok (.iconst 1, 1) := dec_0 oX6_hasWindow (of4 _) rfl
theorem dX6_hasWindow_14 : decode cX6_hasWindow 14 = .ok (.if_icmp .lt 13, 3) := dec_s2 oX6_hasWindow (of161 _) 0 13 rfl (sg16p rfl) rfl
theorem dX6_hasWindow_17 : decode cX6_hasWindow 17 = .ok (.iload_n 2, 1) := dec_0 oX6_hasWindow (of28 _) rfl
theorem dX6_hasWindow_18 : decode cX6_hasWindow 18 = .ok (.aload_n 0, 1) := dec_0 oX6_hasWindow (of42 _) rfl
theorem dX6_hasWindow_19 : decode cX6_hasWindow 19 = .ok (.getfield 19, 3) := dec_2 oX6_hasWindow (of180 _) 0 19 rfl rfl
theorem dX6_hasWindow_22 : decode cX6_hasWindow 22 = .ok (.iload_n 1, 1) := dec_0 oX6_hasWindow (of27 _) rfl
theorem dX6_hasWindow_23 : decode cX6_hasWindow 23 = .ok (.isub, 1) := dec_0 oX6_hasWindow (of100 _) rfl
theorem dX6_hasWindow_24 : decode cX6_hasWindow 24 = .ok (.if_icmp .le 5, 3) := dec_s2 oX6_hasWindow (of164 _) 0 5 rfl (sg16p rfl) rfl
theorem dX6_hasWindow_29 : decode cX6_hasWindow 29 = .ok (.iconst 0, 1) := dec_0 oX6_hasWindow (of3 _) rfl
theorem dX6_hasWindow_30 : decode cX6_hasWindow 30 = .ok (.istore_n 3, 1) := dec_0 oX6_hasWindow (of62 _) rfl
theorem dX6_hasWindow_31 : decode cX6_hasWindow 31 = .ok (.iload_n 3, 1) := dec_0 oX6_hasWindow (of29 _) rfl
theorem dX6_hasWindow_32 : decode cX6_hasWindow 32 = .ok (.iload_n 2, 1) := dec_0 oX6_hasWindow (of28 _) rfl
theorem dX6_hasWindow_33 : decode cX6_hasWindow 33 = .ok (.if_icmp .ge 21, 3) := dec_s2 oX6_hasWindow (of162 _) 0 21 rfl (sg16p rfl) rfl
theorem dX6_hasWindow_36 : decode cX6_hasWindow 36 = .ok (.aload_n 0, 1) := dec_0 oX6_hasWindow (of42 _) rfl
theorem dX6_hasWindow_37 : decode cX6_hasWindow 37 = .ok (.iload_n 1, 1) := dec_0 oX6_hasWindow (of27 _) rfl
theorem dX6_hasWindow_38 : decode cX6_hasWindow 38 = .ok (.iload_n 3, 1) := dec_0 oX6_hasWindow (of29 _) rfl
theorem dX6_hasWindow_39 : decode cX6_hasWindow 39 = .ok (.iadd, 1) := dec_0 oX6_hasWindow (of96 _) rfl
theorem dX6_hasWindow_40 : decode cX6_hasWindow 40 = .ok (.invokevirtual 37, 3) := dec_2 oX6_hasWindow (of182 _) 0 37 rfl rfl
theorem dX6_hasWindow_43 : decode cX6_hasWindow 43 = .ok (.ifCond .ne 5, 3) := dec_s2 oX6_hasWindow (of154 _) 0 5 rfl (sg16p rfl) rfl
theorem dX6_hasWindow_46 : decode cX6_hasWindow 46 = .ok (.iconst 0, 1) := dec_0 oX6_hasWindow (of3 _) rfl
theorem dX6_hasWindow_47 : decode cX6_hasWindow 47 = .ok (.ireturn, 1) := dec_0 oX6_hasWindow (of172 _) rfl
theorem dX6_hasWindow_48 : decode cX6_hasWindow 48 = .ok (.iinc 3 1, 3) := dec_ii oX6_hasWindow (of132 _) 3 1 rfl (sg8p rfl) rfl
theorem dX6_hasWindow_51 : decode cX6_hasWindow 51 = .ok (.goto (-20), 3) := dec_s2 oX6_hasWindow (of167 _) 255 236 rfl (sg16n (k := 20) rfl) rfl
theorem dX6_hasWindow_54 : decode cX6_hasWindow 54 = .ok (.iconst 1, 1) := dec_0 oX6_hasWindow (of4 _) rfl
theorem dX6_hasWindow_55 : decode cX6_hasWindow 55 = .ok (.ireturn, 1) := dec_0 oX6_hasWindow (of172 _) rfl
theorem dX6_copyWindow_0 : decode cX6_copyWindow 0 = .ok (.iconst 0, 1) := dec_0 oX6_copyWindow (of3 _) rfl
theorem dX6_copyWindow_1 : decode cX6_copyWindow 1 = .ok (.istore 4, 2) := dec_1 oX6_copyWindow (of54 _) 4 rfl rfl
theorem dX6_copyWindow_3 : decode cX6_copyWindow 3 = .ok (.iload 4, 2) := dec_1 oX6_copyWindow (of21 _) 4 rfl rfl
theorem dX6_copyWindow_5 : decode cX6_copyWindow 5 = .ok (.iload_n 2, 1) := dec_0 oX6_copyWindow (of28 _) rfl
theorem dX6_copyWindow_6 : decode cX6_copyWindow 6 = .ok (.if_icmp .ge 28, 3) := dec_s2 oX6_copyWindow (of162 _) 0 28 rfl (sg16p rfl) rfl
theorem dX6_copyWindow_9 : decode cX6_copyWindow 9 = .ok (.iload 4, 2) := dec_1 oX6_copyWindow (of21 _) 4 rfl rfl
theorem dX6_copyWindow_11 : decode cX6_copyWindow 11 = .ok (.aload_n 3, 1) := dec_0 oX6_copyWindow (of45 _) rfl
theorem dX6_copyWindow_12 : decode cX6_copyWindow 12 = .ok (.arraylength, 1) := dec_0 oX6_copyWindow (of190 _) rfl
theorem dX6_copyWindow_13 : decode cX6_copyWindow 13 = .ok (.if_icmp .ge 21, 3) := dec_s2 oX6_copyWindow (of162 _) 0 21 rfl (sg16p rfl) rfl
theorem dX6_copyWindow_16 : decode cX6_copyWindow 16 = .ok (.aload_n 3, 1) := dec_0 oX6_copyWindow (of45 _) rfl
theorem dX6_copyWindow_17 : decode cX6_copyWindow 17 = .ok (.iload 4, 2) := dec_1 oX6_copyWindow (of21 _) 4 rfl rfl
theorem dX6_copyWindow_19 : decode cX6_copyWindow 19 = .ok (.aload_n 0, 1) := dec_0 oX6_copyWindow (of42 _) rfl
theorem dX6_copyWindow_20 : decode cX6_copyWindow 20 = .ok (.iload_n 1, 1) := dec_0 oX6_copyWindow (of27 _) rfl
theorem dX6_copyWindow_21 : decode cX6_copyWindow 21 = .ok (.iload 4, 2) := dec_1 oX6_copyWindow (of21 _) 4 rfl rfl
theorem dX6_copyWindow_23 : decode cX6_copyWindow 23 = .ok (.iadd, 1) := dec_0 oX6_copyWindow (of96 _) rfl
theorem dX6_copyWindow_24 : decode cX6_copyWindow 24 = .ok (.invokevirtual 33, 3) := dec_2 oX6_copyWindow (of182 _) 0 33 rfl rfl
theorem dX6_copyWindow_27 : decode cX6_copyWindow 27 = .ok (.iastore, 1) := dec_0 oX6_copyWindow (of79 _) rfl
theorem dX6_copyWindow_28 : decode cX6_copyWindow 28 = .ok (.iinc 4 1, 3) := dec_ii oX6_copyWindow (of132 _) 4 1 rfl (sg8p rfl) rfl
theorem dX6_copyWindow_31 : decode cX6_copyWindow 31 = .ok (.goto (-28), 3) := dec_s2 oX6_copyWindow (of167 _) 255 228 rfl (sg16n (k := 28) rfl) rfl
theorem dX6_copyWindow_34 : decode cX6_copyWindow 34 = .ok (.return_, 1) := dec_0 oX6_copyWindow (of177 _) rfl
theorem dX6_sumOf_11 : decode cX6_sumOf 11 = .ok (.aload_n 0, 1) := dec_0 oX6_sumOf (of42 _) rfl
theorem dX6_sumOf_12 : decode cX6_sumOf 12 = .ok (.iload_n 1, 1) := dec_0 oX6_sumOf (of27 _) rfl
theorem dX6_sumOf_13 : decode cX6_sumOf 13 = .ok (.iload 4, 2) := dec_1 oX6_sumOf (of21 _) 4 rfl rfl
theorem dX6_sumOf_15 : decode cX6_sumOf 15 = .ok (.iadd, 1) := dec_0 oX6_sumOf (of96 _) rfl
theorem dX6_sumOf_16 : decode cX6_sumOf 16 = .ok (.invokevirtual 37, 3) := dec_2 oX6_sumOf (of182 _) 0 37 rfl rfl
theorem dX6_sumOf_19 : decode cX6_sumOf 19 = .ok (.ifCond .eq 14, 3) := dec_s2 oX6_sumOf (of153 _) 0 14 rfl (sg16p rfl) rfl
theorem dX6_sumOf_22 : decode cX6_sumOf 22 = .ok (.iload_n 3, 1) := dec_0 oX6_sumOf (of29 _) rfl
theorem dX6_sumOf_23 : decode cX6_sumOf 23 = .ok (.aload_n 0, 1) := dec_0 oX6_sumOf (of42 _) rfl
theorem dX6_sumOf_24 : decode cX6_sumOf 24 = .ok (.iload_n 1, 1) := dec_0 oX6_sumOf (of27 _) rfl
theorem dX6_sumOf_25 : decode cX6_sumOf 25 = .ok (.iload 4, 2) := dec_1 oX6_sumOf (of21 _) 4 rfl rfl
theorem dX6_sumOf_27 : decode cX6_sumOf 27 = .ok (.iadd, 1) := dec_0 oX6_sumOf (of96 _) rfl
theorem dX6_sumOf_28 : decode cX6_sumOf 28 = .ok (.invokevirtual 33, 3) := dec_2 oX6_sumOf (of182 _) 0 33 rfl rfl
theorem dX6_sumOf_31 : decode cX6_sumOf 31 = .ok (.iadd, 1) := dec_0 oX6_sumOf (of96 _) rfl
theorem dX6_sumOf_32 : decode cX6_sumOf 32 = .ok (.istore_n 3, 1) := dec_0 oX6_sumOf (of62 _) rfl
theorem dX6_sumOf_33 : decode cX6_sumOf 33 = .ok (.iinc 4 1, 3) := dec_ii oX6_sumOf (of132 _) 4 1 rfl (sg8p rfl) rfl
theorem dX6_sumOf_36 : decode cX6_sumOf 36 = .ok (.goto (-31), 3) := dec_s2 oX6_sumOf (of167 _) 255 225 rfl (sg16n (k := 31) rfl) rfl
theorem dX6_leastOf_13 : decode cX6_leastOf 13 = .ok (.aload_n 0, 1) := dec_0 oX6_leastOf (of42 _) rfl
theorem dX6_leastOf_14 : decode cX6_leastOf 14 = .ok (.iload_n 1, 1) := dec_0 oX6_leastOf (of27 _) rfl
theorem dX6_leastOf_15 : decode cX6_leastOf 15 = .ok (.iload 4, 2) := dec_1 oX6_leastOf (of21 _) 4 rfl rfl
theorem dX6_leastOf_17 : decode cX6_leastOf 17 = .ok (.iadd, 1) := dec_0 oX6_leastOf (of96 _) rfl
theorem dX6_leastOf_18 : decode cX6_leastOf 18 = .ok (.invokevirtual 33, 3) := dec_2 oX6_leastOf (of182 _) 0 33 rfl rfl
theorem dX6_leastOf_21 : decode cX6_leastOf 21 = .ok (.istore 5, 2) := dec_1 oX6_leastOf (of54 _) 5 rfl rfl
theorem dX6_leastOf_23 : decode cX6_leastOf 23 = .ok (.iload 5, 2) := dec_1 oX6_leastOf (of21 _) 5 rfl rfl
theorem dX6_leastOf_25 : decode cX6_leastOf 25 = .ok (.sipush (-1000), 3) := dec_s2 oX6_leastOf (of17 _) 252 24 rfl (sg16n (k := 1000) rfl) rfl
theorem dX6_leastOf_28 : decode cX6_leastOf 28 = .ok (.if_icmp .eq 19, 3) := dec_s2 oX6_leastOf (of159 _) 0 19 rfl (sg16p rfl) rfl
theorem dX6_leastOf_31 : decode cX6_leastOf 31 = .ok (.iload_n 3, 1) := dec_0 oX6_leastOf (of29 _) rfl
theorem dX6_leastOf_32 : decode cX6_leastOf 32 = .ok (.sipush (-1000), 3) := dec_s2 oX6_leastOf (of17 _) 252 24 rfl (sg16n (k := 1000) rfl) rfl
theorem dX6_leastOf_35 : decode cX6_leastOf 35 = .ok (.if_icmp .eq 9, 3) := dec_s2 oX6_leastOf (of159 _) 0 9 rfl (sg16p rfl) rfl
theorem dX6_leastOf_38 : decode cX6_leastOf 38 = .ok (.iload 5, 2) := dec_1 oX6_leastOf (of21 _) 5 rfl rfl
theorem dX6_leastOf_40 : decode cX6_leastOf 40 = .ok (.iload_n 3, 1) := dec_0 oX6_leastOf (of29 _) rfl
theorem dX6_leastOf_41 : decode cX6_leastOf 41 = .ok (.if_icmp .ge 6, 3) := dec_s2 oX6_leastOf (of162 _) 0 6 rfl (sg16p rfl) rfl
theorem dX6_leastOf_44 : decode cX6_leastOf 44 = .ok (.iload 5, 2) := dec_1 oX6_leastOf (of21 _) 5 rfl rfl
theorem dX6_leastOf_46 : decode cX6_leastOf 46 = .ok (.istore_n 3, 1) := dec_0 oX6_leastOf (of62 _) rfl
theorem dX6_leastOf_47 : decode cX6_leastOf 47 = .ok (.iinc 4 1, 3) := dec_ii oX6_leastOf (of132 _) 4 1 rfl (sg8p rfl) rfl
theorem dX6_leastOf_50 : decode cX6_leastOf 50 = .ok (.goto (-43), 3) := dec_s2 oX6_leastOf (of167 _) 255 213 rfl (sg16n (k := 43) rfl) rfl
theorem dX6_greatestOf_13 : decode cX6_greatestOf 13 = .ok (.iload_n 3, 1) := dec_0 oX6_greatestOf (of29 _) rfl
theorem dX6_greatestOf_14 : decode cX6_greatestOf 14 = .ok (.aload_n 0, 1) := dec_0 oX6_greatestOf (of42 _) rfl
theorem dX6_greatestOf_15 : decode cX6_greatestOf 15 = .ok (.iload_n 1, 1) := dec_0 oX6_greatestOf (of27 _) rfl
theorem dX6_greatestOf_16 : decode cX6_greatestOf 16 = .ok (.iload 4, 2) := dec_1 oX6_greatestOf (of21 _) 4 rfl rfl
theorem dX6_greatestOf_18 : decode cX6_greatestOf 18 = .ok (.iadd, 1) := dec_0 oX6_greatestOf (of96 _) rfl
theorem dX6_greatestOf_19 : decode cX6_greatestOf 19 = .ok (.invokevirtual 33, 3) := dec_2 oX6_greatestOf (of182 _) 0 33 rfl rfl
theorem dX6_greatestOf_22 : decode cX6_greatestOf 22 = .ok (.invokestatic 40, 3) := dec_2 oX6_greatestOf (of184 _) 0 40 rfl rfl
theorem dX6_greatestOf_25 : decode cX6_greatestOf 25 = .ok (.istore_n 3, 1) := dec_0 oX6_greatestOf (of62 _) rfl
theorem dX6_greatestOf_26 : decode cX6_greatestOf 26 = .ok (.iinc 4 1, 3) := dec_ii oX6_greatestOf (of132 _) 4 1 rfl (sg8p rfl) rfl
theorem dX6_greatestOf_29 : decode cX6_greatestOf 29 = .ok (.goto (-22), 3) := dec_s2 oX6_greatestOf (of167 _) 255 234 rfl (sg16n (k := 22) rfl) rfl
theorem dX6_gapCount_12 : decode cX6_gapCount 12 = .ok (.aload_n 0, 1) := dec_0 oX6_gapCount (of42 _) rfl
theorem dX6_gapCount_13 : decode cX6_gapCount 13 = .ok (.iload_n 2, 1) := dec_0 oX6_gapCount (of28 _) rfl
theorem dX6_gapCount_14 : decode cX6_gapCount 14 = .ok (.invokevirtual 37, 3) := dec_2 oX6_gapCount (of182 _) 0 37 rfl rfl
theorem dX6_gapCount_17 : decode cX6_gapCount 17 = .ok (.ifCond .ne 6, 3) := dec_s2 oX6_gapCount (of154 _) 0 6 rfl (sg16p rfl) rfl
theorem dX6_gapCount_20 : decode cX6_gapCount 20 = .ok (.iinc 1 1, 3) := dec_ii oX6_gapCount (of132 _) 1 1 rfl (sg8p rfl) rfl
theorem dX6_gapCount_23 : decode cX6_gapCount 23 = .ok (.iinc 2 1, 3) := dec_ii oX6_gapCount (of132 _) 2 1 rfl (sg8p rfl) rfl
theorem dX6_gapCount_26 : decode cX6_gapCount 26 = .ok (.goto (-22), 3) := dec_s2 oX6_gapCount (of167 _) 255 234 rfl (sg16n (k := 22) rfl) rfl
theorem dX6_runFrom_12 : decode cX6_runFrom 12 = .ok (.aload_n 0, 1) := dec_0 oX6_runFrom (of42 _) rfl
theorem dX6_runFrom_13 : decode cX6_runFrom 13 = .ok (.iload_n 3, 1) := dec_0 oX6_runFrom (of29 _) rfl
theorem dX6_runFrom_14 : decode cX6_runFrom 14 = .ok (.invokevirtual 37, 3) := dec_2 oX6_runFrom (of182 _) 0 37 rfl rfl
theorem dX6_runFrom_17 : decode cX6_runFrom 17 = .ok (.ifCond .eq 12, 3) := dec_s2 oX6_runFrom (of153 _) 0 12 rfl (sg16p rfl) rfl
theorem dX6_runFrom_20 : decode cX6_runFrom 20 = .ok (.iinc 2 1, 3) := dec_ii oX6_runFrom (of132 _) 2 1 rfl (sg8p rfl) rfl
theorem dX6_runFrom_23 : decode cX6_runFrom 23 = .ok (.iinc 3 1, 3) := dec_ii oX6_runFrom (of132 _) 3 1 rfl (sg8p rfl) rfl
theorem dX6_runFrom_26 : decode cX6_runFrom 26 = .ok (.goto (-22), 3) := dec_s2 oX6_runFrom (of167 _) 255 234 rfl (sg16n (k := 22) rfl) rfl
theorem dX6_readingsAtEnd_13 : decode cX6_readingsAtEnd 13 = .ok (.aload_n 0, 1) := dec_0 oX6_readingsAtEnd (of42 _) rfl
theorem dX6_readingsAtEnd_14 : decode cX6_readingsAtEnd 14 = .ok (.iload_n 2, 1) := dec_0 oX6_readingsAtEnd (of28 _) rfl
theorem dX6_readingsAtEnd_15 : decode cX6_readingsAtEnd 15 = .ok (.invokevirtual 37, 3) := dec_2 oX6_readingsAtEnd (of182 _) 0 37 rfl rfl
theorem dX6_readingsAtEnd_18 : decode cX6_readingsAtEnd 18 = .ok (.ifCond .eq 12, 3) := dec_s2 oX6_readingsAtEnd (of153 _) 0 12 rfl (sg16p rfl) rfl
theorem dX6_readingsAtEnd_21 : decode cX6_readingsAtEnd 21 = .ok (.iinc 1 1, 3) := dec_ii oX6_readingsAtEnd (of132 _) 1 1 rfl (sg8p rfl) rfl
theorem dX6_readingsAtEnd_24 : decode cX6_readingsAtEnd 24 = .ok (.iinc 2 (-1), 3) := dec_ii oX6_readingsAtEnd (of132 _) 2 255 rfl (sg8n (k := 1) rfl) rfl
theorem dX6_readingsAtEnd_27 : decode cX6_readingsAtEnd 27 = .ok (.goto (-18), 3) := dec_s2 oX6_readingsAtEnd (of167 _) 255 238 rfl (sg16n (k := 18) rfl) rfl
theorem dX6_longestRunFirst_15 : decode cX6_longestRunFirst 15 = .ok (.aload_n 0, 1) := dec_0 oX6_longestRunFirst (of42 _) rfl
theorem dX6_longestRunFirst_16 : decode cX6_longestRunFirst 16 = .ok (.iload_n 3, 1) := dec_0 oX6_longestRunFirst (of29 _) rfl
theorem dX6_longestRunFirst_17 : decode cX6_longestRunFirst 17 = .ok (.invokevirtual 46, 3) := dec_2 oX6_longestRunFirst (of182 _) 0 46 rfl rfl
theorem dX6_longestRunFirst_20 : decode cX6_longestRunFirst 20 = .ok (.istore 4, 2) := dec_1 oX6_longestRunFirst (of54 _) 4 rfl rfl
theorem dX6_longestRunFirst_22 : decode cX6_longestRunFirst 22 = .ok (.iload 4, 2) := dec_1 oX6_longestRunFirst (of21 _) 4 rfl rfl
theorem dX6_longestRunFirst_24 : decode cX6_longestRunFirst 24 = .ok (.iload_n 2, 1) := dec_0 oX6_longestRunFirst (of28 _) rfl
theorem dX6_longestRunFirst_25 : decode cX6_longestRunFirst 25 = .ok (.if_icmp .le 8, 3) := dec_s2 oX6_longestRunFirst (of164 _) 0 8 rfl (sg16p rfl) rfl
theorem dX6_longestRunFirst_28 : decode cX6_longestRunFirst 28 = .ok (.iload 4, 2) := dec_1 oX6_longestRunFirst (of21 _) 4 rfl rfl
theorem dX6_longestRunFirst_30 : decode cX6_longestRunFirst 30 = .ok (.istore_n 2, 1) := dec_0 oX6_longestRunFirst (of61 _) rfl
theorem dX6_longestRunFirst_31 : decode cX6_longestRunFirst 31 = .ok (.iload_n 3, 1) := dec_0 oX6_longestRunFirst (of29 _) rfl
theorem dX6_longestRunFirst_32 : decode cX6_longestRunFirst 32 = .ok (.istore_n 1, 1) := dec_0 oX6_longestRunFirst (of60 _) rfl
theorem dX6_longestRunFirst_33 : decode cX6_longestRunFirst 33 = .ok (.iinc 3 1, 3) := dec_ii oX6_longestRunFirst (of132 _) 3 1 rfl (sg8p rfl) rfl
theorem dX6_longestRunFirst_36 : decode cX6_longestRunFirst 36 = .ok (.goto (-29), 3) := dec_s2 oX6_longestRunFirst (of167 _) 255 227 rfl (sg16n (k := 29) rfl) rfl
theorem dX6_flatWindows_16 : decode cX6_flatWindows 16 = .ok (.aload_n 0, 1) := dec_0 oX6_flatWindows (of42 _) rfl
theorem dX6_flatWindows_17 : decode cX6_flatWindows 17 = .ok (.iload 4, 2) := dec_1 oX6_flatWindows (of21 _) 4 rfl rfl
theorem dX6_flatWindows_19 : decode cX6_flatWindows 19 = .ok (.invokevirtual 37, 3) := dec_2 oX6_flatWindows (of182 _) 0 37 rfl rfl
theorem dX6_flatWindows_22 : decode cX6_flatWindows 22 = .ok (.ifCond .ne 8, 3) := dec_s2 oX6_flatWindows (of154 _) 0 8 rfl (sg16p rfl) rfl
theorem dX6_flatWindows_25 : decode cX6_flatWindows 25 = .ok (.iconst 0, 1) := dec_0 oX6_flatWindows (of3 _) rfl
theorem dX6_flatWindows_26 : decode cX6_flatWindows 26 = .ok (.istore_n 3, 1) := dec_0 oX6_flatWindows (of62 _) rfl
theorem dX6_flatWindows_27 : decode cX6_flatWindows 27 = .ok (.goto 32, 3) := dec_s2 oX6_flatWindows (of167 _) 0 32 rfl (sg16p rfl) rfl
theorem dX6_flatWindows_30 : decode cX6_flatWindows 30 = .ok (.iload_n 3, 1) := dec_0 oX6_flatWindows (of29 _) rfl
theorem dX6_flatWindows_31 : decode cX6_flatWindows 31 = .ok (.ifCond .le 26, 3) := dec_s2 oX6_flatWindows (of158 _) 0 26 rfl (sg16p rfl) rfl
theorem dX6_flatWindows_34 : decode cX6_flatWindows 34 = .ok (.aload_n 0, 1) := dec_0 oX6_flatWindows (of42 _) rfl
theorem dX6_flatWindows_35 : decode cX6_flatWindows 35 = .ok (.iload 4, 2) := dec_1 oX6_flatWindows (of21 _) 4 rfl rfl
theorem dX6_flatWindows_37 : decode cX6_flatWindows 37 = .ok (.invokevirtual 33, 3) := dec_2 oX6_flatWindows (of182 _) 0 33 rfl rfl
theorem dX6_flatWindows_40 : decode cX6_flatWindows 40 = .ok (.aload_n 0, 1) := dec_0 oX6_flatWindows (of42 _) rfl
theorem dX6_flatWindows_41 : decode cX6_flatWindows 41 = .ok (.iload 4, 2) := dec_1 oX6_flatWindows (of21 _) 4 rfl rfl
theorem dX6_flatWindows_43 : decode cX6_flatWindows 43 = .ok (.iconst 1, 1) := dec_0 oX6_flatWindows (of4 _) rfl
theorem dX6_flatWindows_44 : decode cX6_flatWindows 44 = .ok (.isub, 1) := dec_0 oX6_flatWindows (of100 _) rfl
theorem dX6_flatWindows_45 : decode cX6_flatWindows 45 = .ok (.invokevirtual 33, 3) := dec_2 oX6_flatWindows (of182 _) 0 33 rfl rfl
theorem dX6_flatWindows_48 : decode cX6_flatWindows 48 = .ok (.if_icmp .ne 9, 3) := dec_s2 oX6_flatWindows (of160 _) 0 9 rfl (sg16p rfl) rfl
theorem dX6_flatWindows_51 : decode cX6_flatWindows 51 = .ok (.iinc 3 1, 3) := dec_ii oX6_flatWindows (of132 _) 3 1 rfl (sg8p rfl) rfl
theorem dX6_flatWindows_54 : decode cX6_flatWindows 54 = .ok (.goto 5, 3) := dec_s2 oX6_flatWindows (of167 _) 0 5 rfl (sg16p rfl) rfl
theorem dX6_flatWindows_57 : decode cX6_flatWindows 57 = .ok (.iconst 1, 1) := dec_0 oX6_flatWindows (of4 _) rfl
theorem dX6_flatWindows_58 : decode cX6_flatWindows 58 = .ok (.istore_n 3, 1) := dec_0 oX6_flatWindows (of62 _) rfl
theorem dX6_flatWindows_59 : decode cX6_flatWindows 59 = .ok (.iload_n 3, 1) := dec_0 oX6_flatWindows (of29 _) rfl
theorem dX6_flatWindows_60 : decode cX6_flatWindows 60 = .ok (.iload_n 1, 1) := dec_0 oX6_flatWindows (of27 _) rfl
theorem dX6_flatWindows_61 : decode cX6_flatWindows 61 = .ok (.if_icmp .lt 6, 3) := dec_s2 oX6_flatWindows (of161 _) 0 6 rfl (sg16p rfl) rfl
theorem dX6_flatWindows_64 : decode cX6_flatWindows 64 = .ok (.iinc 2 1, 3) := dec_ii oX6_flatWindows (of132 _) 2 1 rfl (sg8p rfl) rfl
theorem dX6_flatWindows_67 : decode cX6_flatWindows 67 = .ok (.iinc 4 1, 3) := dec_ii oX6_flatWindows (of132 _) 4 1 rfl (sg8p rfl) rfl
theorem dX6_flatWindows_70 : decode cX6_flatWindows 70 = .ok (.goto (-63), 3) := dec_s2 oX6_flatWindows (of167 _) 255 193 rfl (sg16n (k := 63) rfl) rfl
theorem dX8_append_0 : decode cX8_append 0 = .ok (.aload_n 0, 1) := dec_0 oX8_append (of42 _) rfl
theorem dX8_append_1 : decode cX8_append 1 = .ok (.getfield 22, 3) := dec_2 oX8_append (of180 _) 0 22 rfl rfl
theorem dX8_append_4 : decode cX8_append 4 = .ok (.ifCond .lt 35, 3) := dec_s2 oX8_append (of155 _) 0 35 rfl (sg16p rfl) rfl
theorem dX8_append_7 : decode cX8_append 7 = .ok (.aload_n 0, 1) := dec_0 oX8_append (of42 _) rfl
theorem dX8_append_8 : decode cX8_append 8 = .ok (.getfield 22, 3) := dec_2 oX8_append (of180 _) 0 22 rfl rfl
theorem dX8_append_11 : decode cX8_append 11 = .ok (.aload_n 0, 1) := dec_0 oX8_append (of42 _) rfl
theorem dX8_append_12 : decode cX8_append 12 = .ok (.getfield 9, 3) := dec_2 oX8_append (of180 _) 0 9 rfl rfl
theorem dX8_append_15 : decode cX8_append 15 = .ok (.arraylength, 1) := dec_0 oX8_append (of190 _) rfl
theorem dX8_append_16 : decode cX8_append 16 = .ok (.if_icmp .ge 23, 3) := dec_s2 oX8_append (of162 _) 0 23 rfl (sg16p rfl) rfl
theorem dX8_append_19 : decode cX8_append 19 = .ok (.aload_n 0, 1) := dec_0 oX8_append (of42 _) rfl
theorem dX8_append_20 : decode cX8_append 20 = .ok (.getfield 9, 3) := dec_2 oX8_append (of180 _) 0 9 rfl rfl
theorem dX8_append_23 : decode cX8_append 23 = .ok (.aload_n 0, 1) := dec_0 oX8_append (of42 _) rfl
theorem dX8_append_24 : decode cX8_append 24 = .ok (.getfield 22, 3) := dec_2 oX8_append (of180 _) 0 22 rfl rfl
theorem dX8_append_27 : decode cX8_append 27 = .ok (.iload_n 1, 1) := dec_0 oX8_append (of27 _) rfl
theorem dX8_append_28 : decode cX8_append 28 = .ok (.iastore, 1) := dec_0 oX8_append (of79 _) rfl
theorem dX8_append_29 : decode cX8_append 29 = .ok (.aload_n 0, 1) := dec_0 oX8_append (of42 _) rfl
theorem dX8_append_30 : decode cX8_append 30 = .ok (.dup, 1) := dec_0 oX8_append (of89 _) rfl
theorem dX8_append_31 : decode cX8_append 31 = .ok (.getfield 22, 3) := dec_2 oX8_append (of180 _) 0 22 rfl rfl
theorem dX8_append_34 : decode cX8_append 34 = .ok (.iconst 1, 1) := dec_0 oX8_append (of4 _) rfl
theorem dX8_append_35 : decode cX8_append 35 = .ok (.iadd, 1) := dec_0 oX8_append (of96 _) rfl
theorem dX8_append_36 : decode cX8_append 36 = .ok (.putfield 22, 3) := dec_2 oX8_append (of181 _) 0 22 rfl rfl
theorem dX8_append_39 : decode cX8_append 39 = .ok (.return_, 1) := dec_0 oX8_append (of177 _) rfl
theorem dX8_valueAt_0 : decode cX8_valueAt 0 = .ok (.iload_n 1, 1) := dec_0 oX8_valueAt (of27 _) rfl
theorem dX8_valueAt_1 : decode cX8_valueAt 1 = .ok (.ifCond .lt 29, 3) := dec_s2 oX8_valueAt (of155 _) 0 29 rfl (sg16p rfl) rfl
theorem dX8_valueAt_4 : decode cX8_valueAt 4 = .ok (.iload_n 1, 1) := dec_0 oX8_valueAt (of27 _) rfl
theorem dX8_valueAt_5 : decode cX8_valueAt 5 = .ok (.aload_n 0, 1) := dec_0 oX8_valueAt (of42 _) rfl
theorem dX8_valueAt_6 : decode cX8_valueAt 6 = .ok (.getfield 22, 3) := dec_2 oX8_valueAt (of180 _) 0 22 rfl rfl
theorem dX8_valueAt_9 : decode cX8_valueAt 9 = .ok (.if_icmp .ge 21, 3) := dec_s2 oX8_valueAt (of162 _) 0 21 rfl (sg16p rfl) rfl
theorem dX8_valueAt_12 : decode cX8_valueAt 12 = .ok (.iload_n 1, 1) := dec_0 oX8_valueAt (of27 _) rfl
theorem dX8_valueAt_13 : decode cX8_valueAt 13 = .ok (.aload_n 0, 1) := dec_0 oX8_valueAt (of42 _) rfl
theorem dX8_valueAt_14 : decode cX8_valueAt 14 = .ok (.getfield 9, 3) := dec_2 oX8_valueAt (of180 _) 0 9 rfl rfl
theorem dX8_valueAt_17 : decode cX8_valueAt 17 = .ok (.arraylength, 1) := dec_0 oX8_valueAt (of190 _) rfl
theorem dX8_valueAt_18 : decode cX8_valueAt 18 = .ok (.if_icmp .ge 12, 3) := dec_s2 oX8_valueAt (of162 _) 0 12 rfl (sg16p rfl) rfl
theorem dX8_valueAt_21 : decode cX8_valueAt 21 = .ok (.aload_n 0, 1) := dec_0 oX8_valueAt (of42 _) rfl
theorem dX8_valueAt_22 : decode cX8_valueAt 22 = .ok (.getfield 9, 3) := dec_2 oX8_valueAt (of180 _) 0 9 rfl rfl
theorem dX8_valueAt_25 : decode cX8_valueAt 25 = .ok (.iload_n 1, 1) := dec_0 oX8_valueAt (of27 _) rfl
theorem dX8_valueAt_26 : decode cX8_valueAt 26 = .ok (.iaload, 1) := dec_0 oX8_valueAt (of46 _) rfl
theorem dX8_valueAt_27 : decode cX8_valueAt 27 = .ok (.goto 6, 3) := dec_s2 oX8_valueAt (of167 _) 0 6 rfl (sg16p rfl) rfl
theorem dX8_valueAt_30 : decode cX8_valueAt 30 = .ok (.sipush (-1000), 3) := dec_s2 oX8_valueAt (of17 _) 252 24 rfl (sg16n (k := 1000) rfl) rfl
theorem dX8_valueAt_33 : decode cX8_valueAt 33 = .ok (.ireturn, 1) := dec_0 oX8_valueAt (of172 _) rfl
theorem dX9_bringAll_36 : decode cX9_bringAll 36 = .ok (.aload_n 0, 1) := dec_0 oX9_bringAll (of42 _) rfl
theorem dX9_bringAll_37 : decode cX9_bringAll 37 = .ok (.getfield 19, 3) := dec_2 oX9_bringAll (of180 _) 0 19 rfl rfl
theorem dX9_bringAll_40 : decode cX9_bringAll 40 = .ok (.iload_n 2, 1) := dec_0 oX9_bringAll (of28 _) rfl
theorem dX9_bringAll_41 : decode cX9_bringAll 41 = .ok (.iload_n 1, 1) := dec_0 oX9_bringAll (of27 _) rfl
theorem dX9_bringAll_42 : decode cX9_bringAll 42 = .ok (.invokevirtual 40, 3) := dec_2 oX9_bringAll (of182 _) 0 40 rfl rfl
theorem dX9_bringAll_45 : decode cX9_bringAll 45 = .ok (.aload_n 0, 1) := dec_0 oX9_bringAll (of42 _) rfl
theorem dX9_bringAll_46 : decode cX9_bringAll 46 = .ok (.getfield 29, 3) := dec_2 oX9_bringAll (of180 _) 0 29 rfl rfl
theorem dX9_bringAll_49 : decode cX9_bringAll 49 = .ok (.aload_n 0, 1) := dec_0 oX9_bringAll (of42 _) rfl
theorem dX9_bringAll_50 : decode cX9_bringAll 50 = .ok (.getfield 9, 3) := dec_2 oX9_bringAll (of180 _) 0 9 rfl rfl
theorem dX9_bringAll_53 : decode cX9_bringAll 53 = .ok (.iload_n 2, 1) := dec_0 oX9_bringAll (of28 _) rfl
theorem dX9_bringAll_54 : decode cX9_bringAll 54 = .ok (.bipush 16, 2) := dec_s1 oX9_bringAll (of16 _) 16 rfl (sg8p rfl) rfl
theorem dX9_bringAll_56 : decode cX9_bringAll 56 = .ok (.imul, 1) := dec_0 oX9_bringAll (of104 _) rfl
theorem dX9_bringAll_57 : decode cX9_bringAll 57 = .ok (.invokevirtual 44, 3) := dec_2 oX9_bringAll (of182 _) 0 44 rfl rfl
theorem dX9_findNear_0 : decode cX9_findNear 0 = .ok (.aload_n 0, 1) := dec_0 oX9_findNear (of42 _) rfl
theorem dX9_findNear_1 : decode cX9_findNear 1 = .ok (.iload_n 2, 1) := dec_0 oX9_findNear (of28 _) rfl
theorem dX9_findNear_2 : decode cX9_findNear 2 = .ok (.invokevirtual 50, 3) := dec_2 oX9_findNear (of182 _) 0 50 rfl rfl
theorem dX9_findNear_5 : decode cX9_findNear 5 = .ok (.aload_n 0, 1) := dec_0 oX9_findNear (of42 _) rfl
theorem dX9_findNear_6 : decode cX9_findNear 6 = .ok (.iload_n 1, 1) := dec_0 oX9_findNear (of27 _) rfl
theorem dX9_findNear_7 : decode cX9_findNear 7 = .ok (.iload_n 2, 1) := dec_0 oX9_findNear (of28 _) rfl
theorem dX9_findNear_8 : decode cX9_findNear 8 = .ok (.iconst (-1), 1) := dec_0 oX9_findNear (of2 _) rfl
theorem dX9_findNear_9 : decode cX9_findNear 9 = .ok (.invokevirtual 54, 3) := dec_2 oX9_findNear (of182 _) 0 54 rfl rfl
theorem dX9_findNear_12 : decode cX9_findNear 12 = .ok (.return_, 1) := dec_0 oX9_findNear (of177 _) rfl
theorem dX9_findNearest_0 : decode cX9_findNearest 0 = .ok (.aload_n 0, 1) := dec_0 oX9_findNearest (of42 _) rfl
theorem dX9_findNearest_1 : decode cX9_findNearest 1 = .ok (.bipush (-2), 2) := dec_s1 oX9_findNearest (of16 _) 254 rfl (sg8n (k := 2) rfl) rfl
theorem dX9_findNearest_3 : decode cX9_findNearest 3 = .ok (.putfield 58, 3) := dec_2 oX9_findNearest (of181 _) 0 58 rfl rfl
theorem dX9_findNearest_6 : decode cX9_findNearest 6 = .ok (.aload_n 0, 1) := dec_0 oX9_findNearest (of42 _) rfl
theorem dX9_findNearest_7 : decode cX9_findNearest 7 = .ok (.bipush (-2), 2) := dec_s1 oX9_findNearest (of16 _) 254 rfl (sg8n (k := 2) rfl) rfl
theorem dX9_findNearest_9 : decode cX9_findNearest 9 = .ok (.putfield 62, 3) := dec_2 oX9_findNearest (of181 _) 0 62 rfl rfl
theorem dX9_findNearest_12 : decode cX9_findNearest 12 = .ok (.ldc 65, 2) := dec_1 oX9_findNearest (of18 _) 65 rfl rfl
theorem dX9_findNearest_14 : decode cX9_findNearest 14 = .ok (.istore 4, 2) := dec_1 oX9_findNearest (of54 _) 4 rfl rfl
theorem dX9_findNearest_16 : decode cX9_findNearest 16 = .ok (.aload_n 0, 1) := dec_0 oX9_findNearest (of42 _) rfl
theorem dX9_findNearest_17 : decode cX9_findNearest 17 = .ok (.getfield 29, 3) := dec_2 oX9_findNearest (of180 _) 0 29 rfl rfl
theorem dX9_findNearest_20 : decode cX9_findNearest 20 = .ok (.aload_n 0, 1) := dec_0 oX9_findNearest (of42 _) rfl
theorem dX9_findNearest_21 : decode cX9_findNearest 21 = .ok (.getfield 9, 3) := dec_2 oX9_findNearest (of180 _) 0 9 rfl rfl
theorem dX9_findNearest_24 : decode cX9_findNearest 24 = .ok (.iload_n 1, 1) := dec_0 oX9_findNearest (of27 _) rfl
theorem dX9_findNearest_25 : decode cX9_findNearest 25 = .ok (.bipush 16, 2) := dec_s1 oX9_findNearest (of16 _) 16 rfl (sg8p rfl) rfl
theorem dX9_findNearest_27 : decode cX9_findNearest 27 = .ok (.imul, 1) := dec_0 oX9_findNearest (of104 _) rfl
theorem dX9_findNearest_28 : decode cX9_findNearest 28 = .ok (.invokevirtual 66, 3) := dec_2 oX9_findNearest (of182 _) 0 66 rfl rfl
theorem dX9_findNearest_31 : decode cX9_findNearest 31 = .ok (.iconst 0, 1) := dec_0 oX9_findNearest (of3 _) rfl
theorem dX9_findNearest_32 : decode cX9_findNearest 32 = .ok (.istore 5, 2) := dec_1 oX9_findNearest (of54 _) 5 rfl rfl
theorem dX9_findNearest_34 : decode cX9_findNearest 34 = .ok (.iload 5, 2) := dec_1 oX9_findNearest (of21 _) 5 rfl rfl
theorem dX9_findNearest_36 : decode cX9_findNearest 36 = .ok (.sipush 160, 3) := dec_s2 oX9_findNearest (of17 _) 0 160 rfl (sg16p rfl) rfl
theorem dX9_findNearest_39 : decode cX9_findNearest 39 = .ok (.if_icmp .ge 88, 3) := dec_s2 oX9_findNearest (of162 _) 0 88 rfl (sg16p rfl) rfl
theorem dX9_findNearest_42 : decode cX9_findNearest 42 = .ok (.iload 4, 2) := dec_1 oX9_findNearest (of21 _) 4 rfl rfl
theorem dX9_findNearest_44 : decode cX9_findNearest 44 = .ok (.iload_n 3, 1) := dec_0 oX9_findNearest (of29 _) rfl
theorem dX9_findNearest_45 : decode cX9_findNearest 45 = .ok (.if_icmp .le 82, 3) := dec_s2 oX9_findNearest (of164 _) 0 82 rfl (sg16p rfl) rfl
theorem dX9_findNearest_48 : decode cX9_findNearest 48 = .ok (.aload_n 0, 1) := dec_0 oX9_findNearest (of42 _) rfl
theorem dX9_findNearest_49 : decode cX9_findNearest 49 = .ok (.getfield 15, 3) := dec_2 oX9_findNearest (of180 _) 0 15 rfl rfl
theorem dX9_findNearest_52 : decode cX9_findNearest 52 = .ok (.iload 5, 2) := dec_1 oX9_findNearest (of21 _) 5 rfl rfl
theorem dX9_findNearest_54 : decode cX9_findNearest 54 = .ok (.baload, 1) := dec_0 oX9_findNearest (of51 _) rfl
theorem dX9_findNearest_55 : decode cX9_findNearest 55 = .ok (.ifCond .eq 66, 3) := dec_s2 oX9_findNearest (of153 _) 0 66 rfl (sg16p rfl) rfl
theorem dX9_findNearest_58 : decode cX9_findNearest 58 = .ok (.iload 5, 2) := dec_1 oX9_findNearest (of21 _) 5 rfl rfl
theorem dX9_findNearest_60 : decode cX9_findNearest 60 = .ok (.iload_n 1, 1) := dec_0 oX9_findNearest (of27 _) rfl
theorem dX9_findNearest_61 : decode cX9_findNearest 61 = .ok (.isub, 1) := dec_0 oX9_findNearest (of100 _) rfl
theorem dX9_findNearest_62 : decode cX9_findNearest 62 = .ok (.invokestatic 69, 3) := dec_2 oX9_findNearest (of184 _) 0 69 rfl rfl
theorem dX9_findNearest_65 : decode cX9_findNearest 65 = .ok (.iload_n 2, 1) := dec_0 oX9_findNearest (of28 _) rfl
theorem dX9_findNearest_66 : decode cX9_findNearest 66 = .ok (.if_icmp .ge 6, 3) := dec_s2 oX9_findNearest (of162 _) 0 6 rfl (sg16p rfl) rfl
theorem dX9_findNearest_69 : decode cX9_findNearest 69 = .ok (.goto 52, 3) := dec_s2 oX9_findNearest (of167 _) 0 52 rfl (sg16p rfl) rfl
theorem dX9_findNearest_72 : decode cX9_findNearest 72 = .ok (.aload_n 0, 1) := dec_0 oX9_findNearest (of42 _) rfl
theorem dX9_findNearest_73 : decode cX9_findNearest 73 = .ok (.getfield 29, 3) := dec_2 oX9_findNearest (of180 _) 0 29 rfl rfl
theorem dX9_findNearest_76 : decode cX9_findNearest 76 = .ok (.aload_n 0, 1) := dec_0 oX9_findNearest (of42 _) rfl
theorem dX9_findNearest_77 : decode cX9_findNearest 77 = .ok (.getfield 9, 3) := dec_2 oX9_findNearest (of180 _) 0 9 rfl rfl
theorem dX9_findNearest_80 : decode cX9_findNearest 80 = .ok (.iload 5, 2) := dec_1 oX9_findNearest (of21 _) 5 rfl rfl
theorem dX9_findNearest_82 : decode cX9_findNearest 82 = .ok (.bipush 16, 2) := dec_s1 oX9_findNearest (of16 _) 16 rfl (sg8p rfl) rfl
theorem dX9_findNearest_84 : decode cX9_findNearest 84 = .ok (.imul, 1) := dec_0 oX9_findNearest (of104 _) rfl
theorem dX9_findNearest_85 : decode cX9_findNearest 85 = .ok (.invokevirtual 75, 3) := dec_2 oX9_findNearest (of182 _) 0 75 rfl rfl
theorem dX9_findNearest_88 : decode cX9_findNearest 88 = .ok (.aload_n 0, 1) := dec_0 oX9_findNearest (of42 _) rfl
theorem dX9_findNearest_89 : decode cX9_findNearest 89 = .ok (.getfield 29, 3) := dec_2 oX9_findNearest (of180 _) 0 29 rfl rfl
theorem dX9_findNearest_92 : decode cX9_findNearest 92 = .ok (.iload 4, 2) := dec_1 oX9_findNearest (of21 _) 4 rfl rfl
theorem dX9_findNearest_94 : decode cX9_findNearest 94 = .ok (.invokevirtual 78, 3) := dec_2 oX9_findNearest (of182 _) 0 78 rfl rfl
theorem dX9_findNearest_97 : decode cX9_findNearest 97 = .ok (.ifCond .eq 24, 3) := dec_s2 oX9_findNearest (of153 _) 0 24 rfl (sg16p rfl) rfl
theorem dX9_findNearest_100 : decode cX9_findNearest 100 = .ok (.aload_n 0, 1) := dec_0 oX9_findNearest (of42 _) rfl
theorem dX9_findNearest_101 : decode cX9_findNearest 101 = .ok (.getfield 29, 3) := dec_2 oX9_findNearest (of180 _) 0 29 rfl rfl
theorem dX9_findNearest_104 : decode cX9_findNearest 104 = .ok (.invokevirtual 82, 3) := dec_2 oX9_findNearest (of182 _) 0 82 rfl rfl
theorem dX9_findNearest_107 : decode cX9_findNearest 107 = .ok (.istore 4, 2) := dec_1 oX9_findNearest (of54 _) 4 rfl rfl
theorem dX9_findNearest_109 : decode cX9_findNearest 109 = .ok (.aload_n 0, 1) := dec_0 oX9_findNearest (of42 _) rfl
theorem dX9_findNearest_110 : decode cX9_findNearest 110 = .ok (.iload 5, 2) := dec_1 oX9_findNearest (of21 _) 5 rfl rfl
theorem dX9_findNearest_112 : decode cX9_findNearest 112 = .ok (.putfield 58, 3) := dec_2 oX9_findNearest (of181 _) 0 58 rfl rfl
theorem dX9_findNearest_115 : decode cX9_findNearest 115 = .ok (.aload_n 0, 1) := dec_0 oX9_findNearest (of42 _) rfl
theorem dX9_findNearest_116 : decode cX9_findNearest 116 = .ok (.iload 4, 2) := dec_1 oX9_findNearest (of21 _) 4 rfl rfl
theorem dX9_findNearest_118 : decode cX9_findNearest 118 = .ok (.putfield 62, 3) := dec_2 oX9_findNearest (of181 _) 0 62 rfl rfl
theorem dX9_findNearest_121 : decode cX9_findNearest 121 = .ok (.iinc 5 1, 3) := dec_ii oX9_findNearest (of132 _) 5 1 rfl (sg8p rfl) rfl
theorem dX9_findNearest_124 : decode cX9_findNearest 124 = .ok (.goto (-90), 3) := dec_s2 oX9_findNearest (of167 _) 255 166 rfl (sg16n (k := 90) rfl) rfl
theorem dX9_findNearest_127 : decode cX9_findNearest 127 = .ok (.return_, 1) := dec_0 oX9_findNearest (of177 _) rfl
theorem dX9_findPair_41 : decode cX9_findPair 41 = .ok (.aload_n 0, 1) := dec_0 oX9_findPair (of42 _) rfl
theorem dX9_findPair_42 : decode cX9_findPair 42 = .ok (.getfield 29, 3) := dec_2 oX9_findPair (of180 _) 0 29 rfl rfl
theorem dX9_findPair_45 : decode cX9_findPair 45 = .ok (.aload_n 0, 1) := dec_0 oX9_findPair (of42 _) rfl
theorem dX9_findPair_46 : decode cX9_findPair 46 = .ok (.getfield 9, 3) := dec_2 oX9_findPair (of180 _) 0 9 rfl rfl
theorem dX9_findPair_49 : decode cX9_findPair 49 = .ok (.iload_n 2, 1) := dec_0 oX9_findPair (of28 _) rfl
theorem dX9_findPair_50 : decode cX9_findPair 50 = .ok (.bipush 16, 2) := dec_s1 oX9_findPair (of16 _) 16 rfl (sg8p rfl) rfl
theorem dX9_findPair_52 : decode cX9_findPair 52 = .ok (.imul, 1) := dec_0 oX9_findPair (of104 _) rfl
theorem dX9_findPair_53 : decode cX9_findPair 53 = .ok (.invokevirtual 66, 3) := dec_2 oX9_findPair (of182 _) 0 66 rfl rfl
theorem dX9_findPair_56 : decode cX9_findPair 56 = .ok (.aload_n 0, 1) := dec_0 oX9_findPair (of42 _) rfl
theorem dX9_findPair_57 : decode cX9_findPair 57 = .ok (.iload_n 2, 1) := dec_0 oX9_findPair (of28 _) rfl
theorem dX9_findPair_58 : decode cX9_findPair 58 = .ok (.iload_n 1, 1) := dec_0 oX9_findPair (of27 _) rfl
theorem dX9_findPair_59 : decode cX9_findPair 59 = .ok (.invokevirtual 95, 3) := dec_2 oX9_findPair (of182 _) 0 95 rfl rfl
theorem dX9_seekPairOf_0 : decode cX9_seekPairOf 0 = .ok (.iload_n 1, 1) := dec_0 oX9_seekPairOf (of27 _) rfl
theorem dX9_seekPairOf_1 : decode cX9_seekPairOf 1 = .ok (.iload_n 2, 1) := dec_0 oX9_seekPairOf (of28 _) rfl
theorem dX9_seekPairOf_2 : decode cX9_seekPairOf 2 = .ok (.iadd, 1) := dec_0 oX9_seekPairOf (of96 _) rfl
theorem dX9_seekPairOf_3 : decode cX9_seekPairOf 3 = .ok (.istore_n 3, 1) := dec_0 oX9_seekPairOf (of62 _) rfl
theorem dX9_seekPairOf_4 : decode cX9_seekPairOf 4 = .ok (.iload_n 3, 1) := dec_0 oX9_seekPairOf (of29 _) rfl
theorem dX9_seekPairOf_5 : decode cX9_seekPairOf 5 = .ok (.sipush 160, 3) := dec_s2 oX9_seekPairOf (of17 _) 0 160 rfl (sg16p rfl) rfl
theorem dX9_seekPairOf_8 : decode cX9_seekPairOf 8 = .ok (.if_icmp .ge 83, 3) := dec_s2 oX9_seekPairOf (of162 _) 0 83 rfl (sg16p rfl) rfl
theorem dX9_seekPairOf_11 : decode cX9_seekPairOf 11 = .ok (.aload_n 0, 1) := dec_0 oX9_seekPairOf (of42 _) rfl
theorem dX9_seekPairOf_12 : decode cX9_seekPairOf 12 = .ok (.getfield 15, 3) := dec_2 oX9_seekPairOf (of180 _) 0 15 rfl rfl
theorem dX9_seekPairOf_15 : decode cX9_seekPairOf 15 = .ok (.iload_n 3, 1) := dec_0 oX9_seekPairOf (of29 _) rfl
theorem dX9_seekPairOf_16 : decode cX9_seekPairOf 16 = .ok (.baload, 1) := dec_0 oX9_seekPairOf (of51 _) rfl
theorem dX9_seekPairOf_17 : decode cX9_seekPairOf 17 = .ok (.ifCond .ne 6, 3) := dec_s2 oX9_seekPairOf (of154 _) 0 6 rfl (sg16p rfl) rfl
theorem dX9_seekPairOf_20 : decode cX9_seekPairOf 20 = .ok (.goto 65, 3) := dec_s2 oX9_seekPairOf (of167 _) 0 65 rfl (sg16p rfl) rfl
theorem dX9_seekPairOf_23 : decode cX9_seekPairOf 23 = .ok (.aload_n 0, 1) := dec_0 oX9_seekPairOf (of42 _) rfl
theorem dX9_seekPairOf_24 : decode cX9_seekPairOf 24 = .ok (.getfield 29, 3) := dec_2 oX9_seekPairOf (of180 _) 0 29 rfl rfl
theorem dX9_seekPairOf_27 : decode cX9_seekPairOf 27 = .ok (.aload_n 0, 1) := dec_0 oX9_seekPairOf (of42 _) rfl
theorem dX9_seekPairOf_28 : decode cX9_seekPairOf 28 = .ok (.getfield 9, 3) := dec_2 oX9_seekPairOf (of180 _) 0 9 rfl rfl
theorem dX9_seekPairOf_31 : decode cX9_seekPairOf 31 = .ok (.iload_n 3, 1) := dec_0 oX9_seekPairOf (of29 _) rfl
theorem dX9_seekPairOf_32 : decode cX9_seekPairOf 32 = .ok (.bipush 16, 2) := dec_s1 oX9_seekPairOf (of16 _) 16 rfl (sg8p rfl) rfl
theorem dX9_seekPairOf_34 : decode cX9_seekPairOf 34 = .ok (.imul, 1) := dec_0 oX9_seekPairOf (of104 _) rfl
theorem dX9_seekPairOf_35 : decode cX9_seekPairOf 35 = .ok (.invokevirtual 75, 3) := dec_2 oX9_seekPairOf (of182 _) 0 75 rfl rfl
theorem dX9_seekPairOf_38 : decode cX9_seekPairOf 38 = .ok (.aload_n 0, 1) := dec_0 oX9_seekPairOf (of42 _) rfl
theorem dX9_seekPairOf_39 : decode cX9_seekPairOf 39 = .ok (.getfield 29, 3) := dec_2 oX9_seekPairOf (of180 _) 0 29 rfl rfl
theorem dX9_seekPairOf_42 : decode cX9_seekPairOf 42 = .ok (.aload_n 0, 1) := dec_0 oX9_seekPairOf (of42 _) rfl
theorem dX9_seekPairOf_43 : decode cX9_seekPairOf 43 = .ok (.getfield 92, 3) := dec_2 oX9_seekPairOf (of180 _) 0 92 rfl rfl
theorem dX9_seekPairOf_46 : decode cX9_seekPairOf 46 = .ok (.ifCond .ge 8, 3) := dec_s2 oX9_seekPairOf (of156 _) 0 8 rfl (sg16p rfl) rfl
theorem dX9_seekPairOf_49 : decode cX9_seekPairOf 49 = .ok (.ldc 65, 2) := dec_1 oX9_seekPairOf (of18 _) 65 rfl rfl
theorem dX9_seekPairOf_51 : decode cX9_seekPairOf 51 = .ok (.goto 7, 3) := dec_s2 oX9_seekPairOf (of167 _) 0 7 rfl (sg16p rfl) rfl
theorem dX9_seekPairOf_54 : decode cX9_seekPairOf 54 = .ok (.aload_n 0, 1) := dec_0 oX9_seekPairOf (of42 _) rfl
theorem dX9_seekPairOf_55 : decode cX9_seekPairOf 55 = .ok (.getfield 92, 3) := dec_2 oX9_seekPairOf (of180 _) 0 92 rfl rfl
theorem dX9_seekPairOf_58 : decode cX9_seekPairOf 58 = .ok (.invokevirtual 78, 3) := dec_2 oX9_seekPairOf (of182 _) 0 78 rfl rfl
theorem dX9_seekPairOf_61 : decode cX9_seekPairOf 61 = .ok (.ifCond .eq 24, 3) := dec_s2 oX9_seekPairOf (of153 _) 0 24 rfl (sg16p rfl) rfl
theorem dX9_seekPairOf_64 : decode cX9_seekPairOf 64 = .ok (.aload_n 0, 1) := dec_0 oX9_seekPairOf (of42 _) rfl
theorem dX9_seekPairOf_65 : decode cX9_seekPairOf 65 = .ok (.iload_n 1, 1) := dec_0 oX9_seekPairOf (of27 _) rfl
theorem dX9_seekPairOf_66 : decode cX9_seekPairOf 66 = .ok (.putfield 86, 3) := dec_2 oX9_seekPairOf (of181 _) 0 86 rfl rfl
theorem dX9_seekPairOf_69 : decode cX9_seekPairOf 69 = .ok (.aload_n 0, 1) := dec_0 oX9_seekPairOf (of42 _) rfl
theorem dX9_seekPairOf_70 : decode cX9_seekPairOf 70 = .ok (.iload_n 3, 1) := dec_0 oX9_seekPairOf (of29 _) rfl
theorem dX9_seekPairOf_71 : decode cX9_seekPairOf 71 = .ok (.putfield 89, 3) := dec_2 oX9_seekPairOf (of181 _) 0 89 rfl rfl
theorem dX9_seekPairOf_74 : decode cX9_seekPairOf 74 = .ok (.aload_n 0, 1) := dec_0 oX9_seekPairOf (of42 _) rfl
theorem dX9_seekPairOf_75 : decode cX9_seekPairOf 75 = .ok (.aload_n 0, 1) := dec_0 oX9_seekPairOf (of42 _) rfl
theorem dX9_seekPairOf_76 : decode cX9_seekPairOf 76 = .ok (.getfield 29, 3) := dec_2 oX9_seekPairOf (of180 _) 0 29 rfl rfl
theorem dX9_seekPairOf_79 : decode cX9_seekPairOf 79 = .ok (.invokevirtual 82, 3) := dec_2 oX9_seekPairOf (of182 _) 0 82 rfl rfl
theorem dX9_seekPairOf_82 : decode cX9_seekPairOf 82 = .ok (.putfield 92, 3) := dec_2 oX9_seekPairOf (of181 _) 0 92 rfl rfl
theorem dX9_seekPairOf_85 : decode cX9_seekPairOf 85 = .ok (.iinc 3 1, 3) := dec_ii oX9_seekPairOf (of132 _) 3 1 rfl (sg8p rfl) rfl
theorem dX9_seekPairOf_88 : decode cX9_seekPairOf 88 = .ok (.goto (-84), 3) := dec_s2 oX9_seekPairOf (of167 _) 255 172 rfl (sg16n (k := 84) rfl) rfl
theorem dX9_seekPairOf_91 : decode cX9_seekPairOf 91 = .ok (.return_, 1) := dec_0 oX9_seekPairOf (of177 _) rfl
theorem dX9_findOdd_38 : decode cX9_findOdd 38 = .ok (.aload_n 0, 1) := dec_0 oX9_findOdd (of42 _) rfl
theorem dX9_findOdd_39 : decode cX9_findOdd 39 = .ok (.iload_n 2, 1) := dec_0 oX9_findOdd (of28 _) rfl
theorem dX9_findOdd_40 : decode cX9_findOdd 40 = .ok (.iload_n 1, 1) := dec_0 oX9_findOdd (of27 _) rfl
theorem dX9_findOdd_41 : decode cX9_findOdd 41 = .ok (.aload_n 0, 1) := dec_0 oX9_findOdd (of42 _) rfl
theorem dX9_findOdd_42 : decode cX9_findOdd 42 = .ok (.getfield 101, 3) := dec_2 oX9_findOdd (of180 _) 0 101 rfl rfl
theorem dX9_findOdd_45 : decode cX9_findOdd 45 = .ok (.invokevirtual 54, 3) := dec_2 oX9_findOdd (of182 _) 0 54 rfl rfl
theorem dX9_findOdd_48 : decode cX9_findOdd 48 = .ok (.aload_n 0, 1) := dec_0 oX9_findOdd (of42 _) rfl
theorem dX9_findOdd_49 : decode cX9_findOdd 49 = .ok (.getfield 58, 3) := dec_2 oX9_findOdd (of180 _) 0 58 rfl rfl
theorem dX9_findOdd_52 : decode cX9_findOdd 52 = .ok (.ifCond .lt 27, 3) := dec_s2 oX9_findOdd (of155 _) 0 27 rfl (sg16p rfl) rfl
theorem dX9_findOdd_55 : decode cX9_findOdd 55 = .ok (.aload_n 0, 1) := dec_0 oX9_findOdd (of42 _) rfl
theorem dX9_findOdd_56 : decode cX9_findOdd 56 = .ok (.getfield 62, 3) := dec_2 oX9_findOdd (of180 _) 0 62 rfl rfl
theorem dX9_findOdd_59 : decode cX9_findOdd 59 = .ok (.aload_n 0, 1) := dec_0 oX9_findOdd (of42 _) rfl
theorem dX9_findOdd_60 : decode cX9_findOdd 60 = .ok (.getfield 101, 3) := dec_2 oX9_findOdd (of180 _) 0 101 rfl rfl
theorem dX9_findOdd_63 : decode cX9_findOdd 63 = .ok (.if_icmp .le 16, 3) := dec_s2 oX9_findOdd (of164 _) 0 16 rfl (sg16p rfl) rfl
theorem dX9_findOdd_66 : decode cX9_findOdd 66 = .ok (.aload_n 0, 1) := dec_0 oX9_findOdd (of42 _) rfl
theorem dX9_findOdd_67 : decode cX9_findOdd 67 = .ok (.iload_n 2, 1) := dec_0 oX9_findOdd (of28 _) rfl
theorem dX9_findOdd_68 : decode cX9_findOdd 68 = .ok (.putfield 98, 3) := dec_2 oX9_findOdd (of181 _) 0 98 rfl rfl
theorem dX9_findOdd_71 : decode cX9_findOdd 71 = .ok (.aload_n 0, 1) := dec_0 oX9_findOdd (of42 _) rfl
theorem dX9_findOdd_72 : decode cX9_findOdd 72 = .ok (.aload_n 0, 1) := dec_0 oX9_findOdd (of42 _) rfl
theorem dX9_findOdd_73 : decode cX9_findOdd 73 = .ok (.getfield 62, 3) := dec_2 oX9_findOdd (of180 _) 0 62 rfl rfl
theorem dX9_findOdd_76 : decode cX9_findOdd 76 = .ok (.putfield 101, 3) := dec_2 oX9_findOdd (of181 _) 0 101 rfl rfl
theorem dX10_byteAt_12 : decode cX10_byteAt 12 = .ok (.iload_n 1, 1) := dec_0 oX10_byteAt (of27 _) rfl
theorem dX10_byteAt_13 : decode cX10_byteAt 13 = .ok (.aload_n 0, 1) := dec_0 oX10_byteAt (of42 _) rfl
theorem dX10_byteAt_14 : decode cX10_byteAt 14 = .ok (.getfield 9, 3) := dec_2 oX10_byteAt (of180 _) 0 9 rfl rfl
theorem dX10_byteAt_17 : decode cX10_byteAt 17 = .ok (.arraylength, 1) := dec_0 oX10_byteAt (of190 _) rfl
theorem dX10_byteAt_18 : decode cX10_byteAt 18 = .ok (.if_icmp .ge 12, 3) := dec_s2 oX10_byteAt (of162 _) 0 12 rfl (sg16p rfl) rfl
theorem dX10_byteAt_21 : decode cX10_byteAt 21 = .ok (.aload_n 0, 1) := dec_0 oX10_byteAt (of42 _) rfl
theorem dX10_byteAt_22 : decode cX10_byteAt 22 = .ok (.getfield 9, 3) := dec_2 oX10_byteAt (of180 _) 0 9 rfl rfl
theorem dX10_byteAt_25 : decode cX10_byteAt 25 = .ok (.iload_n 1, 1) := dec_0 oX10_byteAt (of27 _) rfl
theorem dX10_byteAt_26 : decode cX10_byteAt 26 = .ok (.iaload, 1) := dec_0 oX10_byteAt (of46 _) rfl
theorem dX10_byteAt_27 : decode cX10_byteAt 27 = .ok (.goto 4, 3) := dec_s2 oX10_byteAt (of167 _) 0 4 rfl (sg16p rfl) rfl
theorem dX10_toNextToken_56 : decode cX10_toNextToken 56 = .ok (.iload_n 1, 1) := dec_0 oX10_toNextToken (of27 _) rfl
theorem dX10_toNextToken_57 : decode cX10_toNextToken 57 = .ok (.invokestatic 44, 3) := dec_2 oX10_toNextToken (of184 _) 0 44 rfl rfl
theorem dX10_toNextToken_60 : decode cX10_toNextToken 60 = .ok (.ifCond .eq 10, 3) := dec_s2 oX10_toNextToken (of153 _) 0 10 rfl (sg16p rfl) rfl
theorem dX10_toNextToken_63 : decode cX10_toNextToken 63 = .ok (.aload_n 0, 1) := dec_0 oX10_toNextToken (of42 _) rfl
theorem dX10_toNextToken_64 : decode cX10_toNextToken 64 = .ok (.invokevirtual 48, 3) := dec_2 oX10_toNextToken (of182 _) 0 48 rfl rfl
theorem dX10_toNextToken_67 : decode cX10_toNextToken 67 = .ok (.goto 52, 3) := dec_s2 oX10_toNextToken (of167 _) 0 52 rfl (sg16p rfl) rfl
theorem dX10_toNextToken_70 : decode cX10_toNextToken 70 = .ok (.iload_n 1, 1) := dec_0 oX10_toNextToken (of27 _) rfl
theorem dX10_toNextToken_71 : decode cX10_toNextToken 71 = .ok (.invokestatic 51, 3) := dec_2 oX10_toNextToken (of184 _) 0 51 rfl rfl
theorem dX10_toNextToken_74 : decode cX10_toNextToken 74 = .ok (.ifCond .eq 10, 3) := dec_s2 oX10_toNextToken (of153 _) 0 10 rfl (sg16p rfl) rfl
theorem dX10_toNextToken_77 : decode cX10_toNextToken 77 = .ok (.aload_n 0, 1) := dec_0 oX10_toNextToken (of42 _) rfl
theorem dX10_toNextToken_78 : decode cX10_toNextToken 78 = .ok (.invokevirtual 54, 3) := dec_2 oX10_toNextToken (of182 _) 0 54 rfl rfl
theorem dX10_toNextToken_81 : decode cX10_toNextToken 81 = .ok (.goto 38, 3) := dec_s2 oX10_toNextToken (of167 _) 0 38 rfl (sg16p rfl) rfl
theorem dX10_toNextToken_84 : decode cX10_toNextToken 84 = .ok (.aload_n 0, 1) := dec_0 oX10_toNextToken (of42 _) rfl
theorem dX10_toNextToken_85 : decode cX10_toNextToken 85 = .ok (.aload_n 0, 1) := dec_0 oX10_toNextToken (of42 _) rfl
theorem dX10_toNextToken_86 : decode cX10_toNextToken 86 = .ok (.getfield 32, 3) := dec_2 oX10_toNextToken (of180 _) 0 32 rfl rfl
theorem dX10_toNextToken_89 : decode cX10_toNextToken 89 = .ok (.iconst 1, 1) := dec_0 oX10_toNextToken (of4 _) rfl
theorem dX10_toNextToken_90 : decode cX10_toNextToken 90 = .ok (.iadd, 1) := dec_0 oX10_toNextToken (of96 _) rfl
theorem dX10_toNextToken_91 : decode cX10_toNextToken 91 = .ok (.putfield 19, 3) := dec_2 oX10_toNextToken (of181 _) 0 19 rfl rfl
theorem dX10_toNextToken_94 : decode cX10_toNextToken 94 = .ok (.aload_n 0, 1) := dec_0 oX10_toNextToken (of42 _) rfl
theorem dX10_toNextToken_95 : decode cX10_toNextToken 95 = .ok (.iload_n 1, 1) := dec_0 oX10_toNextToken (of27 _) rfl
theorem dX10_toNextToken_96 : decode cX10_toNextToken 96 = .ok (.bipush 59, 2) := dec_s1 oX10_toNextToken (of16 _) 59 rfl (sg8p rfl) rfl
theorem dX10_toNextToken_98 : decode cX10_toNextToken 98 = .ok (.if_icmp .ne 7, 3) := dec_s2 oX10_toNextToken (of160 _) 0 7 rfl (sg16p rfl) rfl
theorem dX10_toNextToken_101 : decode cX10_toNextToken 101 = .ok (.iconst 3, 1) := dec_0 oX10_toNextToken (of6 _) rfl
theorem dX10_toNextToken_102 : decode cX10_toNextToken 102 = .ok (.goto 14, 3) := dec_s2 oX10_toNextToken (of167 _) 0 14 rfl (sg16p rfl) rfl
theorem dX10_toNextToken_105 : decode cX10_toNextToken 105 = .ok (.iload_n 1, 1) := dec_0 oX10_toNextToken (of27 _) rfl
theorem dX10_toNextToken_106 : decode cX10_toNextToken 106 = .ok (.bipush 45, 2) := dec_s1 oX10_toNextToken (of16 _) 45 rfl (sg8p rfl) rfl
theorem dX10_toNextToken_108 : decode cX10_toNextToken 108 = .ok (.if_icmp .ne 7, 3) := dec_s2 oX10_toNextToken (of160 _) 0 7 rfl (sg16p rfl) rfl
theorem dX10_toNextToken_111 : decode cX10_toNextToken 111 = .ok (.iconst 4, 1) := dec_0 oX10_toNextToken (of7 _) rfl
theorem dX10_toNextToken_112 : decode cX10_toNextToken 112 = .ok (.goto 4, 3) := dec_s2 oX10_toNextToken (of167 _) 0 4 rfl (sg16p rfl) rfl
theorem dX10_toNextToken_115 : decode cX10_toNextToken 115 = .ok (.iconst 5, 1) := dec_0 oX10_toNextToken (of8 _) rfl
theorem dX10_toNextToken_116 : decode cX10_toNextToken 116 = .ok (.putfield 41, 3) := dec_2 oX10_toNextToken (of181 _) 0 41 rfl rfl
theorem dX10_behindBlanks_10 : decode cX10_behindBlanks 10 = .ok (.aload_n 0, 1) := dec_0 oX10_behindBlanks (of42 _) rfl
theorem dX10_behindBlanks_11 : decode cX10_behindBlanks 11 = .ok (.iload_n 2, 1) := dec_0 oX10_behindBlanks (of28 _) rfl
theorem dX10_behindBlanks_12 : decode cX10_behindBlanks 12 = .ok (.invokevirtual 38, 3) := dec_2 oX10_behindBlanks (of182 _) 0 38 rfl rfl
theorem dX10_behindBlanks_15 : decode cX10_behindBlanks 15 = .ok (.istore_n 3, 1) := dec_0 oX10_behindBlanks (of62 _) rfl
theorem dX10_behindBlanks_16 : decode cX10_behindBlanks 16 = .ok (.iload_n 3, 1) := dec_0 oX10_behindBlanks (of29 _) rfl
theorem dX10_behindBlanks_17 : decode cX10_behindBlanks 17 = .ok (.bipush 9, 2) := dec_s1 oX10_behindBlanks (of16 _) 9 rfl (sg8p rfl) rfl
theorem dX10_behindBlanks_19 : decode cX10_behindBlanks 19 = .ok (.if_icmp .eq 23, 3) := dec_s2 oX10_behindBlanks (of159 _) 0 23 rfl (sg16p rfl) rfl
theorem dX10_behindBlanks_22 : decode cX10_behindBlanks 22 = .ok (.iload_n 3, 1) := dec_0 oX10_behindBlanks (of29 _) rfl
theorem dX10_behindBlanks_23 : decode cX10_behindBlanks 23 = .ok (.bipush 10, 2) := dec_s1 oX10_behindBlanks (of16 _) 10 rfl (sg8p rfl) rfl
theorem dX10_behindBlanks_25 : decode cX10_behindBlanks 25 = .ok (.if_icmp .eq 17, 3) := dec_s2 oX10_behindBlanks (of159 _) 0 17 rfl (sg16p rfl) rfl
theorem dX10_behindBlanks_28 : decode cX10_behindBlanks 28 = .ok (.iload_n 3, 1) := dec_0 oX10_behindBlanks (of29 _) rfl
theorem dX10_behindBlanks_29 : decode cX10_behindBlanks 29 = .ok (.bipush 13, 2) := dec_s1 oX10_behindBlanks (of16 _) 13 rfl (sg8p rfl) rfl
theorem dX10_behindBlanks_31 : decode cX10_behindBlanks 31 = .ok (.if_icmp .eq 11, 3) := dec_s2 oX10_behindBlanks (of159 _) 0 11 rfl (sg16p rfl) rfl
theorem dX10_behindBlanks_34 : decode cX10_behindBlanks 34 = .ok (.iload_n 3, 1) := dec_0 oX10_behindBlanks (of29 _) rfl
theorem dX10_behindBlanks_35 : decode cX10_behindBlanks 35 = .ok (.bipush 32, 2) := dec_s1 oX10_behindBlanks (of16 _) 32 rfl (sg8p rfl) rfl
theorem dX10_behindBlanks_37 : decode cX10_behindBlanks 37 = .ok (.if_icmp .eq 5, 3) := dec_s2 oX10_behindBlanks (of159 _) 0 5 rfl (sg16p rfl) rfl
theorem dX10_behindBlanks_40 : decode cX10_behindBlanks 40 = .ok (.iload_n 2, 1) := dec_0 oX10_behindBlanks (of28 _) rfl
theorem dX10_behindBlanks_41 : decode cX10_behindBlanks 41 = .ok (.ireturn, 1) := dec_0 oX10_behindBlanks (of172 _) rfl
theorem dX10_behindBlanks_42 : decode cX10_behindBlanks 42 = .ok (.iinc 2 1, 3) := dec_ii oX10_behindBlanks (of132 _) 2 1 rfl (sg8p rfl) rfl
theorem dX10_behindBlanks_45 : decode cX10_behindBlanks 45 = .ok (.goto (-43), 3) := dec_s2 oX10_behindBlanks (of167 _) 255 213 rfl (sg16n (k := 43) rfl) rfl
theorem dX10_isLetter_0 : decode cX10_isLetter 0 = .ok (.iload_n 0, 1) := dec_0 oX10_isLetter (of26 _) rfl
theorem dX10_isLetter_1 : decode cX10_isLetter 1 = .ok (.bipush 97, 2) := dec_s1 oX10_isLetter (of16 _) 97 rfl (sg8p rfl) rfl
theorem dX10_isLetter_3 : decode cX10_isLetter 3 = .ok (.if_icmp .lt 13, 3) := dec_s2 oX10_isLetter (of161 _) 0 13 rfl (sg16p rfl) rfl
theorem dX10_isLetter_6 : decode cX10_isLetter 6 = .ok (.iload_n 0, 1) := dec_0 oX10_isLetter (of26 _) rfl
theorem dX10_isLetter_7 : decode cX10_isLetter 7 = .ok (.bipush 122, 2) := dec_s1 oX10_isLetter (of16 _) 122 rfl (sg8p rfl) rfl
theorem dX10_isLetter_9 : decode cX10_isLetter 9 = .ok (.if_icmp .gt 7, 3) := dec_s2 oX10_isLetter (of163 _) 0 7 rfl (sg16p rfl) rfl
theorem dX10_isLetter_12 : decode cX10_isLetter 12 = .ok (.iconst 1, 1) := dec_0 oX10_isLetter (of4 _) rfl
theorem dX10_isLetter_13 : decode cX10_isLetter 13 = .ok (.goto 4, 3) := dec_s2 oX10_isLetter (of167 _) 0 4 rfl (sg16p rfl) rfl
theorem dX10_isLetter_16 : decode cX10_isLetter 16 = .ok (.iconst 0, 1) := dec_0 oX10_isLetter (of3 _) rfl
theorem dX10_isLetter_17 : decode cX10_isLetter 17 = .ok (.ireturn, 1) := dec_0 oX10_isLetter (of172 _) rfl
theorem dX10_isDigit_0 : decode cX10_isDigit 0 = .ok (.iload_n 0, 1) := dec_0 oX10_isDigit (of26 _) rfl
theorem dX10_isDigit_1 : decode cX10_isDigit 1 = .ok (.bipush 48, 2) := dec_s1 oX10_isDigit (of16 _) 48 rfl (sg8p rfl) rfl
theorem dX10_isDigit_3 : decode cX10_isDigit 3 = .ok (.if_icmp .lt 13, 3) := dec_s2 oX10_isDigit (of161 _) 0 13 rfl (sg16p rfl) rfl
theorem dX10_isDigit_6 : decode cX10_isDigit 6 = .ok (.iload_n 0, 1) := dec_0 oX10_isDigit (of26 _) rfl
theorem dX10_isDigit_7 : decode cX10_isDigit 7 = .ok (.bipush 57, 2) := dec_s1 oX10_isDigit (of16 _) 57 rfl (sg8p rfl) rfl
theorem dX10_isDigit_9 : decode cX10_isDigit 9 = .ok (.if_icmp .gt 7, 3) := dec_s2 oX10_isDigit (of163 _) 0 7 rfl (sg16p rfl) rfl
theorem dX10_isDigit_12 : decode cX10_isDigit 12 = .ok (.iconst 1, 1) := dec_0 oX10_isDigit (of4 _) rfl
theorem dX10_isDigit_13 : decode cX10_isDigit 13 = .ok (.goto 4, 3) := dec_s2 oX10_isDigit (of167 _) 0 4 rfl (sg16p rfl) rfl
theorem dX10_isDigit_16 : decode cX10_isDigit 16 = .ok (.iconst 0, 1) := dec_0 oX10_isDigit (of3 _) rfl
theorem dX10_isDigit_17 : decode cX10_isDigit 17 = .ok (.ireturn, 1) := dec_0 oX10_isDigit (of172 _) rfl
theorem dX10_takeLetters_0 : decode cX10_takeLetters 0 = .ok (.aload_n 0, 1) := dec_0 oX10_takeLetters (of42 _) rfl
theorem dX10_takeLetters_1 : decode cX10_takeLetters 1 = .ok (.getfield 32, 3) := dec_2 oX10_takeLetters (of180 _) 0 32 rfl rfl
theorem dX10_takeLetters_4 : decode cX10_takeLetters 4 = .ok (.istore_n 1, 1) := dec_0 oX10_takeLetters (of60 _) rfl
theorem dX10_takeLetters_5 : decode cX10_takeLetters 5 = .ok (.iload_n 1, 1) := dec_0 oX10_takeLetters (of27 _) rfl
theorem dX10_takeLetters_6 : decode cX10_takeLetters 6 = .ok (.aload_n 0, 1) := dec_0 oX10_takeLetters (of42 _) rfl
theorem dX10_takeLetters_7 : decode cX10_takeLetters 7 = .ok (.getfield 15, 3) := dec_2 oX10_takeLetters (of180 _) 0 15 rfl rfl
theorem dX10_takeLetters_10 : decode cX10_takeLetters 10 = .ok (.if_icmp .ge 20, 3) := dec_s2 oX10_takeLetters (of162 _) 0 20 rfl (sg16p rfl) rfl
theorem dX10_takeLetters_13 : decode cX10_takeLetters 13 = .ok (.aload_n 0, 1) := dec_0 oX10_takeLetters (of42 _) rfl
theorem dX10_takeLetters_14 : decode cX10_takeLetters 14 = .ok (.iload_n 1, 1) := dec_0 oX10_takeLetters (of27 _) rfl
theorem dX10_takeLetters_15 : decode cX10_takeLetters 15 = .ok (.invokevirtual 38, 3) := dec_2 oX10_takeLetters (of182 _) 0 38 rfl rfl
theorem dX10_takeLetters_18 : decode cX10_takeLetters 18 = .ok (.invokestatic 44, 3) := dec_2 oX10_takeLetters (of184 _) 0 44 rfl rfl
theorem dX10_takeLetters_21 : decode cX10_takeLetters 21 = .ok (.ifCond .eq 9, 3) := dec_s2 oX10_takeLetters (of153 _) 0 9 rfl (sg16p rfl) rfl
theorem dX10_takeLetters_24 : decode cX10_takeLetters 24 = .ok (.iinc 1 1, 3) := dec_ii oX10_takeLetters (of132 _) 1 1 rfl (sg8p rfl) rfl
theorem dX10_takeLetters_27 : decode cX10_takeLetters 27 = .ok (.goto (-22), 3) := dec_s2 oX10_takeLetters (of167 _) 255 234 rfl (sg16n (k := 22) rfl) rfl
theorem dX10_takeLetters_30 : decode cX10_takeLetters 30 = .ok (.aload_n 0, 1) := dec_0 oX10_takeLetters (of42 _) rfl
theorem dX10_takeLetters_31 : decode cX10_takeLetters 31 = .ok (.iload_n 1, 1) := dec_0 oX10_takeLetters (of27 _) rfl
theorem dX10_takeLetters_32 : decode cX10_takeLetters 32 = .ok (.putfield 19, 3) := dec_2 oX10_takeLetters (of181 _) 0 19 rfl rfl
theorem dX10_takeLetters_35 : decode cX10_takeLetters 35 = .ok (.aload_n 0, 1) := dec_0 oX10_takeLetters (of42 _) rfl
theorem dX10_takeLetters_36 : decode cX10_takeLetters 36 = .ok (.aload_n 0, 1) := dec_0 oX10_takeLetters (of42 _) rfl
theorem dX10_takeLetters_37 : decode cX10_takeLetters 37 = .ok (.getfield 19, 3) := dec_2 oX10_takeLetters (of180 _) 0 19 rfl rfl
theorem dX10_takeLetters_40 : decode cX10_takeLetters 40 = .ok (.aload_n 0, 1) := dec_0 oX10_takeLetters (of42 _) rfl
theorem dX10_takeLetters_41 : decode cX10_takeLetters 41 = .ok (.getfield 32, 3) := dec_2 oX10_takeLetters (of180 _) 0 32 rfl rfl
theorem dX10_takeLetters_44 : decode cX10_takeLetters 44 = .ok (.isub, 1) := dec_0 oX10_takeLetters (of100 _) rfl
theorem dX10_takeLetters_45 : decode cX10_takeLetters 45 = .ok (.bipush 8, 2) := dec_s1 oX10_takeLetters (of16 _) 8 rfl (sg8p rfl) rfl
theorem dX10_takeLetters_47 : decode cX10_takeLetters 47 = .ok (.if_icmp .gt 7, 3) := dec_s2 oX10_takeLetters (of163 _) 0 7 rfl (sg16p rfl) rfl
theorem dX10_takeLetters_50 : decode cX10_takeLetters 50 = .ok (.iconst 1, 1) := dec_0 oX10_takeLetters (of4 _) rfl
theorem dX10_takeLetters_51 : decode cX10_takeLetters 51 = .ok (.goto 4, 3) := dec_s2 oX10_takeLetters (of167 _) 0 4 rfl (sg16p rfl) rfl
theorem dX10_takeLetters_54 : decode cX10_takeLetters 54 = .ok (.iconst 5, 1) := dec_0 oX10_takeLetters (of8 _) rfl
theorem dX10_takeLetters_55 : decode cX10_takeLetters 55 = .ok (.putfield 41, 3) := dec_2 oX10_takeLetters (of181 _) 0 41 rfl rfl
theorem dX10_takeLetters_58 : decode cX10_takeLetters 58 = .ok (.return_, 1) := dec_0 oX10_takeLetters (of177 _) rfl
theorem dX10_takeDigits_0 : decode cX10_takeDigits 0 = .ok (.aload_n 0, 1) := dec_0 oX10_takeDigits (of42 _) rfl
theorem dX10_takeDigits_1 : decode cX10_takeDigits 1 = .ok (.getfield 32, 3) := dec_2 oX10_takeDigits (of180 _) 0 32 rfl rfl
theorem dX10_takeDigits_4 : decode cX10_takeDigits 4 = .ok (.istore_n 1, 1) := dec_0 oX10_takeDigits (of60 _) rfl
theorem dX10_takeDigits_5 : decode cX10_takeDigits 5 = .ok (.iload_n 1, 1) := dec_0 oX10_takeDigits (of27 _) rfl
theorem dX10_takeDigits_6 : decode cX10_takeDigits 6 = .ok (.aload_n 0, 1) := dec_0 oX10_takeDigits (of42 _) rfl
theorem dX10_takeDigits_7 : decode cX10_takeDigits 7 = .ok (.getfield 15, 3) := dec_2 oX10_takeDigits (of180 _) 0 15 rfl rfl
theorem dX10_takeDigits_10 : decode cX10_takeDigits 10 = .ok (.if_icmp .ge 40, 3) := dec_s2 oX10_takeDigits (of162 _) 0 40 rfl (sg16p rfl) rfl
theorem dX10_takeDigits_13 : decode cX10_takeDigits 13 = .ok (.aload_n 0, 1) := dec_0 oX10_takeDigits (of42 _) rfl
theorem dX10_takeDigits_14 : decode cX10_takeDigits 14 = .ok (.iload_n 1, 1) := dec_0 oX10_takeDigits (of27 _) rfl
theorem dX10_takeDigits_15 : decode cX10_takeDigits 15 = .ok (.invokevirtual 38, 3) := dec_2 oX10_takeDigits (of182 _) 0 38 rfl rfl
theorem dX10_takeDigits_18 : decode cX10_takeDigits 18 = .ok (.invokestatic 51, 3) := dec_2 oX10_takeDigits (of184 _) 0 51 rfl rfl
theorem dX10_takeDigits_21 : decode cX10_takeDigits 21 = .ok (.ifCond .eq 29, 3) := dec_s2 oX10_takeDigits (of153 _) 0 29 rfl (sg16p rfl) rfl
theorem dX10_takeDigits_24 : decode cX10_takeDigits 24 = .ok (.aload_n 0, 1) := dec_0 oX10_takeDigits (of42 _) rfl
theorem dX10_takeDigits_25 : decode cX10_takeDigits 25 = .ok (.aload_n 0, 1) := dec_0 oX10_takeDigits (of42 _) rfl
theorem dX10_takeDigits_26 : decode cX10_takeDigits 26 = .ok (.getfield 35, 3) := dec_2 oX10_takeDigits (of180 _) 0 35 rfl rfl
theorem dX10_takeDigits_29 : decode cX10_takeDigits 29 = .ok (.bipush 10, 2) := dec_s1 oX10_takeDigits (of16 _) 10 rfl (sg8p rfl) rfl
theorem dX10_takeDigits_31 : decode cX10_takeDigits 31 = .ok (.imul, 1) := dec_0 oX10_takeDigits (of104 _) rfl
theorem dX10_takeDigits_32 : decode cX10_takeDigits 32 = .ok (.aload_n 0, 1) := dec_0 oX10_takeDigits (of42 _) rfl
theorem dX10_takeDigits_33 : decode cX10_takeDigits 33 = .ok (.iload_n 1, 1) := dec_0 oX10_takeDigits (of27 _) rfl
theorem dX10_takeDigits_34 : decode cX10_takeDigits 34 = .ok (.invokevirtual 38, 3) := dec_2 oX10_takeDigits (of182 _) 0 38 rfl rfl
theorem dX10_takeDigits_37 : decode cX10_takeDigits 37 = .ok (.iadd, 1) := dec_0 oX10_takeDigits (of96 _) rfl
theorem dX10_takeDigits_38 : decode cX10_takeDigits 38 = .ok (.bipush 48, 2) := dec_s1 oX10_takeDigits (of16 _) 48 rfl (sg8p rfl) rfl
theorem dX10_takeDigits_40 : decode cX10_takeDigits 40 = .ok (.isub, 1) := dec_0 oX10_takeDigits (of100 _) rfl
theorem dX10_takeDigits_41 : decode cX10_takeDigits 41 = .ok (.putfield 35, 3) := dec_2 oX10_takeDigits (of181 _) 0 35 rfl rfl
theorem dX10_takeDigits_44 : decode cX10_takeDigits 44 = .ok (.iinc 1 1, 3) := dec_ii oX10_takeDigits (of132 _) 1 1 rfl (sg8p rfl) rfl
theorem dX10_takeDigits_47 : decode cX10_takeDigits 47 = .ok (.goto (-42), 3) := dec_s2 oX10_takeDigits (of167 _) 255 214 rfl (sg16n (k := 42) rfl) rfl
theorem dX10_takeDigits_50 : decode cX10_takeDigits 50 = .ok (.aload_n 0, 1) := dec_0 oX10_takeDigits (of42 _) rfl
theorem dX10_takeDigits_51 : decode cX10_takeDigits 51 = .ok (.iload_n 1, 1) := dec_0 oX10_takeDigits (of27 _) rfl
theorem dX10_takeDigits_52 : decode cX10_takeDigits 52 = .ok (.putfield 19, 3) := dec_2 oX10_takeDigits (of181 _) 0 19 rfl rfl
theorem dX10_takeDigits_55 : decode cX10_takeDigits 55 = .ok (.aload_n 0, 1) := dec_0 oX10_takeDigits (of42 _) rfl
theorem dX10_takeDigits_56 : decode cX10_takeDigits 56 = .ok (.aload_n 0, 1) := dec_0 oX10_takeDigits (of42 _) rfl
theorem dX10_takeDigits_57 : decode cX10_takeDigits 57 = .ok (.getfield 19, 3) := dec_2 oX10_takeDigits (of180 _) 0 19 rfl rfl
theorem dX10_takeDigits_60 : decode cX10_takeDigits 60 = .ok (.aload_n 0, 1) := dec_0 oX10_takeDigits (of42 _) rfl
theorem dX10_takeDigits_61 : decode cX10_takeDigits 61 = .ok (.getfield 32, 3) := dec_2 oX10_takeDigits (of180 _) 0 32 rfl rfl
theorem dX10_takeDigits_64 : decode cX10_takeDigits 64 = .ok (.isub, 1) := dec_0 oX10_takeDigits (of100 _) rfl
theorem dX10_takeDigits_65 : decode cX10_takeDigits 65 = .ok (.iconst 4, 1) := dec_0 oX10_takeDigits (of7 _) rfl
theorem dX10_takeDigits_66 : decode cX10_takeDigits 66 = .ok (.if_icmp .gt 7, 3) := dec_s2 oX10_takeDigits (of163 _) 0 7 rfl (sg16p rfl) rfl
theorem dX10_takeDigits_69 : decode cX10_takeDigits 69 = .ok (.iconst 2, 1) := dec_0 oX10_takeDigits (of5 _) rfl
theorem dX10_takeDigits_70 : decode cX10_takeDigits 70 = .ok (.goto 4, 3) := dec_s2 oX10_takeDigits (of167 _) 0 4 rfl (sg16p rfl) rfl
theorem dX10_takeDigits_73 : decode cX10_takeDigits 73 = .ok (.iconst 5, 1) := dec_0 oX10_takeDigits (of8 _) rfl
theorem dX10_takeDigits_74 : decode cX10_takeDigits 74 = .ok (.putfield 41, 3) := dec_2 oX10_takeDigits (of181 _) 0 41 rfl rfl
theorem dX10_takeDigits_77 : decode cX10_takeDigits 77 = .ok (.return_, 1) := dec_0 oX10_takeDigits (of177 _) rfl
theorem dX10_lengthAtHand_0 : decode cX10_lengthAtHand 0 = .ok (.aload_n 0, 1) := dec_0 oX10_lengthAtHand (of42 _) rfl
theorem dX10_lengthAtHand_1 : decode cX10_lengthAtHand 1 = .ok (.getfield 19, 3) := dec_2 oX10_lengthAtHand (of180 _) 0 19 rfl rfl
theorem dX10_lengthAtHand_4 : decode cX10_lengthAtHand 4 = .ok (.aload_n 0, 1) := dec_0 oX10_lengthAtHand (of42 _) rfl
theorem dX10_lengthAtHand_5 : decode cX10_lengthAtHand 5 = .ok (.getfield 32, 3) := dec_2 oX10_lengthAtHand (of180 _) 0 32 rfl rfl
theorem dX10_lengthAtHand_8 : decode cX10_lengthAtHand 8 = .ok (.isub, 1) := dec_0 oX10_lengthAtHand (of100 _) rfl
theorem dX10_lengthAtHand_9 : decode cX10_lengthAtHand 9 = .ok (.ireturn, 1) := dec_0 oX10_lengthAtHand (of172 _) rfl
theorem dX10_isWord_0 : decode cX10_isWord 0 = .ok (.aload_n 0, 1) := dec_0 oX10_isWord (of42 _) rfl
theorem dX10_isWord_1 : decode cX10_isWord 1 = .ok (.getfield 41, 3) := dec_2 oX10_isWord (of180 _) 0 41 rfl rfl
theorem dX10_isWord_4 : decode cX10_isWord 4 = .ok (.iconst 1, 1) := dec_0 oX10_isWord (of4 _) rfl
theorem dX10_isWord_5 : decode cX10_isWord 5 = .ok (.if_icmp .ne 14, 3) := dec_s2 oX10_isWord (of160 _) 0 14 rfl (sg16p rfl) rfl
theorem dX10_isWord_8 : decode cX10_isWord 8 = .ok (.aload_n 0, 1) := dec_0 oX10_isWord (of42 _) rfl
theorem dX10_isWord_9 : decode cX10_isWord 9 = .ok (.invokevirtual 57, 3) := dec_2 oX10_isWord (of182 _) 0 57 rfl rfl
theorem dX10_isWord_12 : decode cX10_isWord 12 = .ok (.aload_n 1, 1) := dec_0 oX10_isWord (of43 _) rfl
theorem dX10_isWord_13 : decode cX10_isWord 13 = .ok (.invokevirtual 61, 3) := dec_2 oX10_isWord (of182 _) 0 61 rfl rfl
theorem dX10_isWord_16 : decode cX10_isWord 16 = .ok (.if_icmp .eq 5, 3) := dec_s2 oX10_isWord (of159 _) 0 5 rfl (sg16p rfl) rfl
theorem dX10_isWord_19 : decode cX10_isWord 19 = .ok (.iconst 0, 1) := dec_0 oX10_isWord (of3 _) rfl
theorem dX10_isWord_20 : decode cX10_isWord 20 = .ok (.ireturn, 1) := dec_0 oX10_isWord (of172 _) rfl
theorem dX10_isWord_21 : decode cX10_isWord 21 = .ok (.iconst 0, 1) := dec_0 oX10_isWord (of3 _) rfl
theorem dX10_isWord_22 : decode cX10_isWord 22 = .ok (.istore_n 2, 1) := dec_0 oX10_isWord (of61 _) rfl
theorem dX10_isWord_23 : decode cX10_isWord 23 = .ok (.iload_n 2, 1) := dec_0 oX10_isWord (of28 _) rfl
theorem dX10_isWord_24 : decode cX10_isWord 24 = .ok (.aload_n 1, 1) := dec_0 oX10_isWord (of43 _) rfl
theorem dX10_isWord_25 : decode cX10_isWord 25 = .ok (.invokevirtual 61, 3) := dec_2 oX10_isWord (of182 _) 0 61 rfl rfl
theorem dX10_isWord_28 : decode cX10_isWord 28 = .ok (.if_icmp .ge 29, 3) := dec_s2 oX10_isWord (of162 _) 0 29 rfl (sg16p rfl) rfl
theorem dX10_isWord_31 : decode cX10_isWord 31 = .ok (.aload_n 0, 1) := dec_0 oX10_isWord (of42 _) rfl
theorem dX10_isWord_32 : decode cX10_isWord 32 = .ok (.aload_n 0, 1) := dec_0 oX10_isWord (of42 _) rfl
theorem dX10_isWord_33 : decode cX10_isWord 33 = .ok (.getfield 32, 3) := dec_2 oX10_isWord (of180 _) 0 32 rfl rfl
theorem dX10_isWord_36 : decode cX10_isWord 36 = .ok (.iload_n 2, 1) := dec_0 oX10_isWord (of28 _) rfl
theorem dX10_isWord_37 : decode cX10_isWord 37 = .ok (.iadd, 1) := dec_0 oX10_isWord (of96 _) rfl
theorem dX10_isWord_38 : decode cX10_isWord 38 = .ok (.invokevirtual 38, 3) := dec_2 oX10_isWord (of182 _) 0 38 rfl rfl
theorem dX10_isWord_41 : decode cX10_isWord 41 = .ok (.aload_n 1, 1) := dec_0 oX10_isWord (of43 _) rfl
theorem dX10_isWord_42 : decode cX10_isWord 42 = .ok (.iload_n 2, 1) := dec_0 oX10_isWord (of28 _) rfl
theorem dX10_isWord_43 : decode cX10_isWord 43 = .ok (.invokevirtual 66, 3) := dec_2 oX10_isWord (of182 _) 0 66 rfl rfl
theorem dX10_isWord_46 : decode cX10_isWord 46 = .ok (.if_icmp .eq 5, 3) := dec_s2 oX10_isWord (of159 _) 0 5 rfl (sg16p rfl) rfl
theorem dX10_isWord_49 : decode cX10_isWord 49 = .ok (.iconst 0, 1) := dec_0 oX10_isWord (of3 _) rfl
theorem dX10_isWord_50 : decode cX10_isWord 50 = .ok (.ireturn, 1) := dec_0 oX10_isWord (of172 _) rfl
theorem dX10_isWord_51 : decode cX10_isWord 51 = .ok (.iinc 2 1, 3) := dec_ii oX10_isWord (of132 _) 2 1 rfl (sg8p rfl) rfl
theorem dX10_isWord_54 : decode cX10_isWord 54 = .ok (.goto (-31), 3) := dec_s2 oX10_isWord (of167 _) 255 225 rfl (sg16n (k := 31) rfl) rfl
theorem dX10_isWord_57 : decode cX10_isWord 57 = .ok (.iconst 1, 1) := dec_0 oX10_isWord (of4 _) rfl
end
section
theorem dX10_isWord_58 : decode cX10_isWord 58 = .ok (.ireturn, 1) := dec_0 oX10_isWord (of172 _) rfl
theorem dX10_isSameAsAt_0 : decode cX10_isSameAsAt 0 = .ok (.iload_n 2, 1) := dec_0 oX10_isSameAsAt (of28 _) rfl
theorem dX10_isSameAsAt_1 : decode cX10_isSameAsAt 1 = .ok (.aload_n 0, 1) := dec_0 oX10_isSameAsAt (of42 _) rfl
theorem dX10_isSameAsAt_2 : decode cX10_isSameAsAt 2 = .ok (.invokevirtual 57, 3) := dec_2 oX10_isSameAsAt (of182 _) 0 57 rfl rfl
theorem dX10_isSameAsAt_5 : decode cX10_isSameAsAt 5 = .ok (.if_icmp .eq 5, 3) := dec_s2 oX10_isSameAsAt (of159 _) 0 5 rfl (sg16p rfl) rfl
theorem dX10_isSameAsAt_8 : decode cX10_isSameAsAt 8 = .ok (.iconst 0, 1) := dec_0 oX10_isSameAsAt (of3 _) rfl
theorem dX10_isSameAsAt_9 : decode cX10_isSameAsAt 9 = .ok (.ireturn, 1) := dec_0 oX10_isSameAsAt (of172 _) rfl
theorem dX10_isSameAsAt_10 : decode cX10_isSameAsAt 10 = .ok (.iconst 0, 1) := dec_0 oX10_isSameAsAt (of3 _) rfl
theorem dX10_isSameAsAt_11 : decode cX10_isSameAsAt 11 = .ok (.istore_n 3, 1) := dec_0 oX10_isSameAsAt (of62 _) rfl
theorem dX10_isSameAsAt_12 : decode cX10_isSameAsAt 12 = .ok (.iload_n 3, 1) := dec_0 oX10_isSameAsAt (of29 _) rfl
theorem dX10_isSameAsAt_13 : decode cX10_isSameAsAt 13 = .ok (.iload_n 2, 1) := dec_0 oX10_isSameAsAt (of28 _) rfl
theorem dX10_isSameAsAt_14 : decode cX10_isSameAsAt 14 = .ok (.if_icmp .ge 31, 3) := dec_s2 oX10_isSameAsAt (of162 _) 0 31 rfl (sg16p rfl) rfl
theorem dX10_isSameAsAt_17 : decode cX10_isSameAsAt 17 = .ok (.aload_n 0, 1) := dec_0 oX10_isSameAsAt (of42 _) rfl
theorem dX10_isSameAsAt_18 : decode cX10_isSameAsAt 18 = .ok (.aload_n 0, 1) := dec_0 oX10_isSameAsAt (of42 _) rfl
theorem dX10_isSameAsAt_19 : decode cX10_isSameAsAt 19 = .ok (.getfield 32, 3) := dec_2 oX10_isSameAsAt (of180 _) 0 32 rfl rfl
theorem dX10_isSameAsAt_22 : decode cX10_isSameAsAt 22 = .ok (.iload_n 3, 1) := dec_0 oX10_isSameAsAt (of29 _) rfl
theorem dX10_isSameAsAt_23 : decode cX10_isSameAsAt 23 = .ok (.iadd, 1) := dec_0 oX10_isSameAsAt (of96 _) rfl
theorem dX10_isSameAsAt_24 : decode cX10_isSameAsAt 24 = .ok (.invokevirtual 38, 3) := dec_2 oX10_isSameAsAt (of182 _) 0 38 rfl rfl
theorem dX10_isSameAsAt_27 : decode cX10_isSameAsAt 27 = .ok (.aload_n 0, 1) := dec_0 oX10_isSameAsAt (of42 _) rfl
theorem dX10_isSameAsAt_28 : decode cX10_isSameAsAt 28 = .ok (.iload_n 1, 1) := dec_0 oX10_isSameAsAt (of27 _) rfl
theorem dX10_isSameAsAt_29 : decode cX10_isSameAsAt 29 = .ok (.iload_n 3, 1) := dec_0 oX10_isSameAsAt (of29 _) rfl
theorem dX10_isSameAsAt_30 : decode cX10_isSameAsAt 30 = .ok (.iadd, 1) := dec_0 oX10_isSameAsAt (of96 _) rfl
theorem dX10_isSameAsAt_31 : decode cX10_isSameAsAt 31 = .ok (.invokevirtual 38, 3) := dec_2 oX10_isSameAsAt (of182 _) 0 38 rfl rfl
theorem dX10_isSameAsAt_34 : decode cX10_isSameAsAt 34 = .ok (.if_icmp .eq 5, 3) := dec_s2 oX10_isSameAsAt (of159 _) 0 5 rfl (sg16p rfl) rfl
theorem dX10_isSameAsAt_37 : decode cX10_isSameAsAt 37 = .ok (.iconst 0, 1) := dec_0 oX10_isSameAsAt (of3 _) rfl
theorem dX10_isSameAsAt_38 : decode cX10_isSameAsAt 38 = .ok (.ireturn, 1) := dec_0 oX10_isSameAsAt (of172 _) rfl
theorem dX10_isSameAsAt_39 : decode cX10_isSameAsAt 39 = .ok (.iinc 3 1, 3) := dec_ii oX10_isSameAsAt (of132 _) 3 1 rfl (sg8p rfl) rfl
theorem dX10_isSameAsAt_42 : decode cX10_isSameAsAt 42 = .ok (.goto (-30), 3) := dec_s2 oX10_isSameAsAt (of167 _) 255 226 rfl (sg16n (k := 30) rfl) rfl
theorem dX10_isSameAsAt_45 : decode cX10_isSameAsAt 45 = .ok (.iconst 1, 1) := dec_0 oX10_isSameAsAt (of4 _) rfl
theorem dX10_isSameAsAt_46 : decode cX10_isSameAsAt 46 = .ok (.ireturn, 1) := dec_0 oX10_isSameAsAt (of172 _) rfl
theorem dX11_feed_13 : decode cX11_feed 13 = .ok (.iconst (-1), 1) := dec_0 oX11_feed (of2 _) rfl
theorem dX11_feed_14 : decode cX11_feed 14 = .ok (.ireturn, 1) := dec_0 oX11_feed (of172 _) rfl
theorem dX11_appendPlace_11 : decode cX11_appendPlace 11 = .ok (.iconst (-1), 1) := dec_0 oX11_appendPlace (of2 _) rfl
theorem dX11_appendPlace_12 : decode cX11_appendPlace 12 = .ok (.ireturn, 1) := dec_0 oX11_appendPlace (of172 _) rfl
theorem dX11_mend_18 : decode cX11_mend 18 = .ok (.aload_n 0, 1) := dec_0 oX11_mend (of42 _) rfl
theorem dX11_mend_19 : decode cX11_mend 19 = .ok (.getfield 28, 3) := dec_2 oX11_mend (of180 _) 0 28 rfl rfl
theorem dX11_mend_22 : decode cX11_mend 22 = .ok (.iload_n 1, 1) := dec_0 oX11_mend (of27 _) rfl
theorem dX11_mend_23 : decode cX11_mend 23 = .ok (.invokevirtual 139, 3) := dec_2 oX11_mend (of182 _) 0 139 rfl rfl
theorem dX11_mend_26 : decode cX11_mend 26 = .ok (.ifCond .eq 7, 3) := dec_s2 oX11_mend (of153 _) 0 7 rfl (sg16p rfl) rfl
theorem dX11_mend_33 : decode cX11_mend 33 = .ok (.aload_n 0, 1) := dec_0 oX11_mend (of42 _) rfl
theorem dX11_mend_34 : decode cX11_mend 34 = .ok (.getfield 28, 3) := dec_2 oX11_mend (of180 _) 0 28 rfl rfl
theorem dX11_mend_37 : decode cX11_mend 37 = .ok (.iload_n 1, 1) := dec_0 oX11_mend (of27 _) rfl
theorem dX11_mend_38 : decode cX11_mend 38 = .ok (.iconst 1, 1) := dec_0 oX11_mend (of4 _) rfl
theorem dX11_mend_39 : decode cX11_mend 39 = .ok (.isub, 1) := dec_0 oX11_mend (of100 _) rfl
theorem dX11_mend_40 : decode cX11_mend 40 = .ok (.invokevirtual 139, 3) := dec_2 oX11_mend (of182 _) 0 139 rfl rfl
theorem dX11_mend_43 : decode cX11_mend 43 = .ok (.ifCond .eq 16, 3) := dec_s2 oX11_mend (of153 _) 0 16 rfl (sg16p rfl) rfl
theorem dX11_mend_46 : decode cX11_mend 46 = .ok (.aload_n 0, 1) := dec_0 oX11_mend (of42 _) rfl
theorem dX11_mend_47 : decode cX11_mend 47 = .ok (.getfield 28, 3) := dec_2 oX11_mend (of180 _) 0 28 rfl rfl
theorem dX11_mend_50 : decode cX11_mend 50 = .ok (.iload_n 1, 1) := dec_0 oX11_mend (of27 _) rfl
theorem dX11_mend_51 : decode cX11_mend 51 = .ok (.iconst 1, 1) := dec_0 oX11_mend (of4 _) rfl
theorem dX11_mend_52 : decode cX11_mend 52 = .ok (.iadd, 1) := dec_0 oX11_mend (of96 _) rfl
theorem dX11_mend_53 : decode cX11_mend 53 = .ok (.invokevirtual 139, 3) := dec_2 oX11_mend (of182 _) 0 139 rfl rfl
theorem dX11_mend_56 : decode cX11_mend 56 = .ok (.ifCond .ne 7, 3) := dec_s2 oX11_mend (of154 _) 0 7 rfl (sg16p rfl) rfl
theorem dX11_mend_59 : decode cX11_mend 59 = .ok (.sipush (-1000), 3) := dec_s2 oX11_mend (of17 _) 252 24 rfl (sg16n (k := 1000) rfl) rfl
theorem dX11_mend_62 : decode cX11_mend 62 = .ok (.ireturn, 1) := dec_0 oX11_mend (of172 _) rfl
theorem dX11_mend_63 : decode cX11_mend 63 = .ok (.aload_n 0, 1) := dec_0 oX11_mend (of42 _) rfl
theorem dX11_mend_64 : decode cX11_mend 64 = .ok (.getfield 28, 3) := dec_2 oX11_mend (of180 _) 0 28 rfl rfl
theorem dX11_mend_67 : decode cX11_mend 67 = .ok (.iload_n 1, 1) := dec_0 oX11_mend (of27 _) rfl
theorem dX11_mend_68 : decode cX11_mend 68 = .ok (.iconst 1, 1) := dec_0 oX11_mend (of4 _) rfl
theorem dX11_mend_69 : decode cX11_mend 69 = .ok (.isub, 1) := dec_0 oX11_mend (of100 _) rfl
theorem dX11_mend_70 : decode cX11_mend 70 = .ok (.invokevirtual 120, 3) := dec_2 oX11_mend (of182 _) 0 120 rfl rfl
theorem dX11_mend_73 : decode cX11_mend 73 = .ok (.aload_n 0, 1) := dec_0 oX11_mend (of42 _) rfl
theorem dX11_mend_74 : decode cX11_mend 74 = .ok (.getfield 28, 3) := dec_2 oX11_mend (of180 _) 0 28 rfl rfl
theorem dX11_mend_77 : decode cX11_mend 77 = .ok (.iload_n 1, 1) := dec_0 oX11_mend (of27 _) rfl
theorem dX11_mend_78 : decode cX11_mend 78 = .ok (.iconst 1, 1) := dec_0 oX11_mend (of4 _) rfl
theorem dX11_mend_79 : decode cX11_mend 79 = .ok (.iadd, 1) := dec_0 oX11_mend (of96 _) rfl
theorem dX11_mend_80 : decode cX11_mend 80 = .ok (.invokevirtual 120, 3) := dec_2 oX11_mend (of182 _) 0 120 rfl rfl
theorem dX11_mend_83 : decode cX11_mend 83 = .ok (.iadd, 1) := dec_0 oX11_mend (of96 _) rfl
theorem dX11_mend_84 : decode cX11_mend 84 = .ok (.iconst 2, 1) := dec_0 oX11_mend (of5 _) rfl
theorem dX11_mend_85 : decode cX11_mend 85 = .ok (.invokestatic 142, 3) := dec_2 oX11_mend (of184 _) 0 142 rfl rfl
theorem dX11_mend_88 : decode cX11_mend 88 = .ok (.istore_n 2, 1) := dec_0 oX11_mend (of61 _) rfl
theorem dX11_mend_89 : decode cX11_mend 89 = .ok (.aload_n 0, 1) := dec_0 oX11_mend (of42 _) rfl
theorem dX11_mend_90 : decode cX11_mend 90 = .ok (.getfield 28, 3) := dec_2 oX11_mend (of180 _) 0 28 rfl rfl
theorem dX11_mend_93 : decode cX11_mend 93 = .ok (.iload_n 1, 1) := dec_0 oX11_mend (of27 _) rfl
theorem dX11_mend_94 : decode cX11_mend 94 = .ok (.iload_n 2, 1) := dec_0 oX11_mend (of28 _) rfl
theorem dX11_mend_95 : decode cX11_mend 95 = .ok (.invokevirtual 147, 3) := dec_2 oX11_mend (of182 _) 0 147 rfl rfl
theorem dX11_mend_98 : decode cX11_mend 98 = .ok (.aload_n 0, 1) := dec_0 oX11_mend (of42 _) rfl
theorem dX11_mend_99 : decode cX11_mend 99 = .ok (.getfield 49, 3) := dec_2 oX11_mend (of180 _) 0 49 rfl rfl
theorem dX11_mend_102 : decode cX11_mend 102 = .ok (.iconst 1, 1) := dec_0 oX11_mend (of4 _) rfl
theorem dX11_mend_103 : decode cX11_mend 103 = .ok (.iload_n 1, 1) := dec_0 oX11_mend (of27 _) rfl
theorem dX11_mend_104 : decode cX11_mend 104 = .ok (.iconst 0, 1) := dec_0 oX11_mend (of3 _) rfl
theorem dX11_mend_105 : decode cX11_mend 105 = .ok (.invokevirtual 134, 3) := dec_2 oX11_mend (of182 _) 0 134 rfl rfl
theorem dX11_mend_108 : decode cX11_mend 108 = .ok (.iload_n 2, 1) := dec_0 oX11_mend (of28 _) rfl
theorem dX11_mend_109 : decode cX11_mend 109 = .ok (.ireturn, 1) := dec_0 oX11_mend (of172 _) rfl
theorem dX11_drop_13 : decode cX11_drop 13 = .ok (.aload_n 0, 1) := dec_0 oX11_drop (of42 _) rfl
theorem dX11_drop_14 : decode cX11_drop 14 = .ok (.getfield 49, 3) := dec_2 oX11_drop (of180 _) 0 49 rfl rfl
theorem dX11_drop_17 : decode cX11_drop 17 = .ok (.iconst 2, 1) := dec_0 oX11_drop (of5 _) rfl
theorem dX11_drop_18 : decode cX11_drop 18 = .ok (.iload_n 1, 1) := dec_0 oX11_drop (of27 _) rfl
theorem dX11_drop_19 : decode cX11_drop 19 = .ok (.iconst 0, 1) := dec_0 oX11_drop (of3 _) rfl
theorem dX11_drop_20 : decode cX11_drop 20 = .ok (.invokevirtual 134, 3) := dec_2 oX11_drop (of182 _) 0 134 rfl rfl
theorem dX11_drop_23 : decode cX11_drop 23 = .ok (.iconst 1, 1) := dec_0 oX11_drop (of4 _) rfl
theorem dX11_drop_24 : decode cX11_drop 24 = .ok (.ireturn, 1) := dec_0 oX11_drop (of172 _) rfl
theorem dX11_undo_12 : decode cX11_undo 12 = .ok (.aload_n 0, 1) := dec_0 oX11_undo (of42 _) rfl
theorem dX11_undo_13 : decode cX11_undo 13 = .ok (.getfield 49, 3) := dec_2 oX11_undo (of180 _) 0 49 rfl rfl
theorem dX11_undo_16 : decode cX11_undo 16 = .ok (.invokevirtual 168, 3) := dec_2 oX11_undo (of182 _) 0 168 rfl rfl
theorem dX11_undo_19 : decode cX11_undo 19 = .ok (.istore_n 1, 1) := dec_0 oX11_undo (of60 _) rfl
theorem dX11_undo_20 : decode cX11_undo 20 = .ok (.aload_n 0, 1) := dec_0 oX11_undo (of42 _) rfl
theorem dX11_undo_21 : decode cX11_undo 21 = .ok (.getfield 49, 3) := dec_2 oX11_undo (of180 _) 0 49 rfl rfl
theorem dX11_undo_24 : decode cX11_undo 24 = .ok (.invokevirtual 171, 3) := dec_2 oX11_undo (of182 _) 0 171 rfl rfl
theorem dX11_undo_27 : decode cX11_undo 27 = .ok (.tableswitch 60 0 2 #[25, 35, 49], 25) := by decide +kernel
theorem dX11_undo_52 : decode cX11_undo 52 = .ok (.aload_n 0, 1) := dec_0 oX11_undo (of42 _) rfl
theorem dX11_undo_53 : decode cX11_undo 53 = .ok (.getfield 28, 3) := dec_2 oX11_undo (of180 _) 0 28 rfl rfl
theorem dX11_undo_56 : decode cX11_undo 56 = .ok (.invokevirtual 174, 3) := dec_2 oX11_undo (of182 _) 0 174 rfl rfl
theorem dX11_undo_59 : decode cX11_undo 59 = .ok (.goto 43, 3) := dec_s2 oX11_undo (of167 _) 0 43 rfl (sg16p rfl) rfl
theorem dX11_undo_62 : decode cX11_undo 62 = .ok (.aload_n 0, 1) := dec_0 oX11_undo (of42 _) rfl
theorem dX11_undo_63 : decode cX11_undo 63 = .ok (.getfield 28, 3) := dec_2 oX11_undo (of180 _) 0 28 rfl rfl
theorem dX11_undo_66 : decode cX11_undo 66 = .ok (.iload_n 1, 1) := dec_0 oX11_undo (of27 _) rfl
theorem dX11_undo_67 : decode cX11_undo 67 = .ok (.sipush (-1000), 3) := dec_s2 oX11_undo (of17 _) 252 24 rfl (sg16n (k := 1000) rfl) rfl
theorem dX11_undo_70 : decode cX11_undo 70 = .ok (.invokevirtual 147, 3) := dec_2 oX11_undo (of182 _) 0 147 rfl rfl
theorem dX11_undo_73 : decode cX11_undo 73 = .ok (.goto 29, 3) := dec_s2 oX11_undo (of167 _) 0 29 rfl (sg16p rfl) rfl
theorem dX11_undo_76 : decode cX11_undo 76 = .ok (.aload_n 0, 1) := dec_0 oX11_undo (of42 _) rfl
theorem dX11_undo_77 : decode cX11_undo 77 = .ok (.getfield 28, 3) := dec_2 oX11_undo (of180 _) 0 28 rfl rfl
theorem dX11_undo_80 : decode cX11_undo 80 = .ok (.iload_n 1, 1) := dec_0 oX11_undo (of27 _) rfl
theorem dX11_undo_81 : decode cX11_undo 81 = .ok (.invokevirtual 177, 3) := dec_2 oX11_undo (of182 _) 0 177 rfl rfl
theorem dX11_undo_84 : decode cX11_undo 84 = .ok (.goto 18, 3) := dec_s2 oX11_undo (of167 _) 0 18 rfl (sg16p rfl) rfl
theorem dX11_undo_87 : decode cX11_undo 87 = .ok (.aload_n 0, 1) := dec_0 oX11_undo (of42 _) rfl
theorem dX11_undo_88 : decode cX11_undo 88 = .ok (.getfield 42, 3) := dec_2 oX11_undo (of180 _) 0 42 rfl rfl
theorem dX11_undo_91 : decode cX11_undo 91 = .ok (.iload_n 1, 1) := dec_0 oX11_undo (of27 _) rfl
theorem dX11_undo_92 : decode cX11_undo 92 = .ok (.aload_n 0, 1) := dec_0 oX11_undo (of42 _) rfl
theorem dX11_undo_93 : decode cX11_undo 93 = .ok (.getfield 49, 3) := dec_2 oX11_undo (of180 _) 0 49 rfl rfl
theorem dX11_undo_96 : decode cX11_undo 96 = .ok (.invokevirtual 180, 3) := dec_2 oX11_undo (of182 _) 0 180 rfl rfl
theorem dX11_undo_99 : decode cX11_undo 99 = .ok (.invokevirtual 161, 3) := dec_2 oX11_undo (of182 _) 0 161 rfl rfl
theorem dX11_undo_102 : decode cX11_undo 102 = .ok (.iconst 1, 1) := dec_0 oX11_undo (of4 _) rfl
theorem dX11_undo_103 : decode cX11_undo 103 = .ok (.ireturn, 1) := dec_0 oX11_undo (of172 _) rfl
theorem dX11_window_20 : decode cX11_window 20 = .ok (.iload_n 3, 1) := dec_0 oX11_window (of29 _) rfl
theorem dX11_window_21 : decode cX11_window 21 = .ok (.tableswitch 75 0 3 #[31, 41, 51, 61], 31) := by decide +kernel
theorem dX11_window_52 : decode cX11_window 52 = .ok (.aload_n 0, 1) := dec_0 oX11_window (of42 _) rfl
theorem dX11_window_53 : decode cX11_window 53 = .ok (.getfield 28, 3) := dec_2 oX11_window (of180 _) 0 28 rfl rfl
theorem dX11_window_56 : decode cX11_window 56 = .ok (.iload_n 1, 1) := dec_0 oX11_window (of27 _) rfl
theorem dX11_window_57 : decode cX11_window 57 = .ok (.iload_n 2, 1) := dec_0 oX11_window (of28 _) rfl
theorem dX11_window_58 : decode cX11_window 58 = .ok (.invokevirtual 187, 3) := dec_2 oX11_window (of182 _) 0 187 rfl rfl
theorem dX11_window_61 : decode cX11_window 61 = .ok (.ireturn, 1) := dec_0 oX11_window (of172 _) rfl
theorem dX11_window_62 : decode cX11_window 62 = .ok (.aload_n 0, 1) := dec_0 oX11_window (of42 _) rfl
theorem dX11_window_63 : decode cX11_window 63 = .ok (.getfield 28, 3) := dec_2 oX11_window (of180 _) 0 28 rfl rfl
theorem dX11_window_66 : decode cX11_window 66 = .ok (.iload_n 1, 1) := dec_0 oX11_window (of27 _) rfl
theorem dX11_window_67 : decode cX11_window 67 = .ok (.iload_n 2, 1) := dec_0 oX11_window (of28 _) rfl
theorem dX11_window_68 : decode cX11_window 68 = .ok (.invokevirtual 190, 3) := dec_2 oX11_window (of182 _) 0 190 rfl rfl
theorem dX11_window_71 : decode cX11_window 71 = .ok (.ireturn, 1) := dec_0 oX11_window (of172 _) rfl
theorem dX11_window_72 : decode cX11_window 72 = .ok (.aload_n 0, 1) := dec_0 oX11_window (of42 _) rfl
theorem dX11_window_73 : decode cX11_window 73 = .ok (.getfield 28, 3) := dec_2 oX11_window (of180 _) 0 28 rfl rfl
theorem dX11_window_76 : decode cX11_window 76 = .ok (.iload_n 1, 1) := dec_0 oX11_window (of27 _) rfl
theorem dX11_window_77 : decode cX11_window 77 = .ok (.iload_n 2, 1) := dec_0 oX11_window (of28 _) rfl
theorem dX11_window_78 : decode cX11_window 78 = .ok (.invokevirtual 193, 3) := dec_2 oX11_window (of182 _) 0 193 rfl rfl
theorem dX11_window_81 : decode cX11_window 81 = .ok (.ireturn, 1) := dec_0 oX11_window (of172 _) rfl
theorem dX11_window_82 : decode cX11_window 82 = .ok (.aload_n 0, 1) := dec_0 oX11_window (of42 _) rfl
theorem dX11_window_83 : decode cX11_window 83 = .ok (.getfield 28, 3) := dec_2 oX11_window (of180 _) 0 28 rfl rfl
theorem dX11_window_86 : decode cX11_window 86 = .ok (.iload_n 1, 1) := dec_0 oX11_window (of27 _) rfl
theorem dX11_window_87 : decode cX11_window 87 = .ok (.iload_n 2, 1) := dec_0 oX11_window (of28 _) rfl
theorem dX11_window_88 : decode cX11_window 88 = .ok (.invokevirtual 187, 3) := dec_2 oX11_window (of182 _) 0 187 rfl rfl
theorem dX11_window_91 : decode cX11_window 91 = .ok (.iload_n 2, 1) := dec_0 oX11_window (of28 _) rfl
theorem dX11_window_92 : decode cX11_window 92 = .ok (.invokestatic 142, 3) := dec_2 oX11_window (of184 _) 0 142 rfl rfl
theorem dX11_window_95 : decode cX11_window 95 = .ok (.ireturn, 1) := dec_0 oX11_window (of172 _) rfl
theorem dX11_window_96 : decode cX11_window 96 = .ok (.ldc 186, 2) := dec_1 oX11_window (of18 _) 186 rfl rfl
theorem dX11_window_98 : decode cX11_window 98 = .ok (.ireturn, 1) := dec_0 oX11_window (of172 _) rfl
theorem dX11_level_31 : decode cX11_level 31 = .ok (.aload_n 0, 1) := dec_0 oX11_level (of42 _) rfl
theorem dX11_level_32 : decode cX11_level 32 = .ok (.getfield 65, 3) := dec_2 oX11_level (of180 _) 0 65 rfl rfl
theorem dX11_level_35 : decode cX11_level 35 = .ok (.iload_n 1, 1) := dec_0 oX11_level (of27 _) rfl
theorem dX11_level_36 : decode cX11_level 36 = .ok (.iload_n 2, 1) := dec_0 oX11_level (of28 _) rfl
theorem dX11_level_37 : decode cX11_level 37 = .ok (.invokevirtual 199, 3) := dec_2 oX11_level (of182 _) 0 199 rfl rfl
theorem dX11_level_40 : decode cX11_level 40 = .ok (.aload_n 0, 1) := dec_0 oX11_level (of42 _) rfl
theorem dX11_level_41 : decode cX11_level 41 = .ok (.getfield 65, 3) := dec_2 oX11_level (of180 _) 0 65 rfl rfl
theorem dX11_level_44 : decode cX11_level 44 = .ok (.getfield 202, 3) := dec_2 oX11_level (of180 _) 0 202 rfl rfl
theorem dX11_level_47 : decode cX11_level 47 = .ok (.getfield 206, 3) := dec_2 oX11_level (of180 _) 0 206 rfl rfl
theorem dX11_level_50 : decode cX11_level 50 = .ok (.iload_n 3, 1) := dec_0 oX11_level (of29 _) rfl
theorem dX11_level_51 : decode cX11_level 51 = .ok (.iaload, 1) := dec_0 oX11_level (of46 _) rfl
theorem dX11_level_52 : decode cX11_level 52 = .ok (.ireturn, 1) := dec_0 oX11_level (of172 _) rfl
theorem dX11_distance_12 : decode cX11_distance 12 = .ok (.aload_n 0, 1) := dec_0 oX11_distance (of42 _) rfl
theorem dX11_distance_13 : decode cX11_distance 13 = .ok (.getfield 65, 3) := dec_2 oX11_distance (of180 _) 0 65 rfl rfl
theorem dX11_distance_16 : decode cX11_distance 16 = .ok (.getfield 202, 3) := dec_2 oX11_distance (of180 _) 0 202 rfl rfl
theorem dX11_distance_19 : decode cX11_distance 19 = .ok (.invokevirtual 215, 3) := dec_2 oX11_distance (of182 _) 0 215 rfl rfl
theorem dX11_distance_22 : decode cX11_distance 22 = .ok (.goto 4, 3) := dec_s2 oX11_distance (of167 _) 0 4 rfl (sg16p rfl) rfl
theorem dX11_bound_14 : decode cX11_bound 14 = .ok (.iload_n 3, 1) := dec_0 oX11_bound (of29 _) rfl
theorem dX11_bound_15 : decode cX11_bound 15 = .ok (.tableswitch 58 0 2 #[25, 36, 47], 25) := by decide +kernel
theorem dX11_bound_40 : decode cX11_bound 40 = .ok (.aload_n 0, 1) := dec_0 oX11_bound (of42 _) rfl
theorem dX11_bound_41 : decode cX11_bound 41 = .ok (.getfield 65, 3) := dec_2 oX11_bound (of180 _) 0 65 rfl rfl
theorem dX11_bound_44 : decode cX11_bound 44 = .ok (.getfield 202, 3) := dec_2 oX11_bound (of180 _) 0 202 rfl rfl
theorem dX11_bound_47 : decode cX11_bound 47 = .ok (.invokevirtual 218, 3) := dec_2 oX11_bound (of182 _) 0 218 rfl rfl
theorem dX11_bound_50 : decode cX11_bound 50 = .ok (.ireturn, 1) := dec_0 oX11_bound (of172 _) rfl
theorem dX11_bound_51 : decode cX11_bound 51 = .ok (.aload_n 0, 1) := dec_0 oX11_bound (of42 _) rfl
theorem dX11_bound_52 : decode cX11_bound 52 = .ok (.getfield 65, 3) := dec_2 oX11_bound (of180 _) 0 65 rfl rfl
theorem dX11_bound_55 : decode cX11_bound 55 = .ok (.getfield 202, 3) := dec_2 oX11_bound (of180 _) 0 202 rfl rfl
theorem dX11_bound_58 : decode cX11_bound 58 = .ok (.invokevirtual 221, 3) := dec_2 oX11_bound (of182 _) 0 221 rfl rfl
theorem dX11_bound_61 : decode cX11_bound 61 = .ok (.ireturn, 1) := dec_0 oX11_bound (of172 _) rfl
theorem dX11_bound_62 : decode cX11_bound 62 = .ok (.aload_n 0, 1) := dec_0 oX11_bound (of42 _) rfl
theorem dX11_bound_63 : decode cX11_bound 63 = .ok (.getfield 65, 3) := dec_2 oX11_bound (of180 _) 0 65 rfl rfl
theorem dX11_bound_66 : decode cX11_bound 66 = .ok (.getfield 202, 3) := dec_2 oX11_bound (of180 _) 0 202 rfl rfl
theorem dX11_bound_69 : decode cX11_bound 69 = .ok (.invokevirtual 224, 3) := dec_2 oX11_bound (of182 _) 0 224 rfl rfl
theorem dX11_bound_72 : decode cX11_bound 72 = .ok (.ireturn, 1) := dec_0 oX11_bound (of172 _) rfl
theorem dX11_bound_73 : decode cX11_bound 73 = .ok (.iconst (-1), 1) := dec_0 oX11_bound (of2 _) rfl
theorem dX11_bound_74 : decode cX11_bound 74 = .ok (.ireturn, 1) := dec_0 oX11_bound (of172 _) rfl
theorem dX11_look_29 : decode cX11_look 29 = .ok (.aload_n 0, 1) := dec_0 oX11_look (of42 _) rfl
theorem dX11_look_30 : decode cX11_look 30 = .ok (.getfield 65, 3) := dec_2 oX11_look (of180 _) 0 65 rfl rfl
theorem dX11_look_33 : decode cX11_look 33 = .ok (.getfield 202, 3) := dec_2 oX11_look (of180 _) 0 202 rfl rfl
theorem dX11_look_36 : decode cX11_look 36 = .ok (.iload_n 3, 1) := dec_0 oX11_look (of29 _) rfl
theorem dX11_look_37 : decode cX11_look 37 = .ok (.invokevirtual 227, 3) := dec_2 oX11_look (of182 _) 0 227 rfl rfl
theorem dX11_look_40 : decode cX11_look 40 = .ok (.istore 5, 2) := dec_1 oX11_look (of54 _) 5 rfl rfl
theorem dX11_look_42 : decode cX11_look 42 = .ok (.iload 4, 2) := dec_1 oX11_look (of21 _) 4 rfl rfl
theorem dX11_look_44 : decode cX11_look 44 = .ok (.ifCond .ne 6, 3) := dec_s2 oX11_look (of154 _) 0 6 rfl (sg16p rfl) rfl
theorem dX11_look_47 : decode cX11_look 47 = .ok (.iload 5, 2) := dec_1 oX11_look (of21 _) 5 rfl rfl
theorem dX11_look_49 : decode cX11_look 49 = .ok (.ireturn, 1) := dec_0 oX11_look (of172 _) rfl
theorem dX11_look_50 : decode cX11_look 50 = .ok (.iload 4, 2) := dec_1 oX11_look (of21 _) 4 rfl rfl
theorem dX11_look_52 : decode cX11_look 52 = .ok (.iconst 1, 1) := dec_0 oX11_look (of4 _) rfl
theorem dX11_look_53 : decode cX11_look 53 = .ok (.if_icmp .ne 16, 3) := dec_s2 oX11_look (of160 _) 0 16 rfl (sg16p rfl) rfl
theorem dX11_look_56 : decode cX11_look 56 = .ok (.aload_n 0, 1) := dec_0 oX11_look (of42 _) rfl
theorem dX11_look_57 : decode cX11_look 57 = .ok (.getfield 65, 3) := dec_2 oX11_look (of180 _) 0 65 rfl rfl
theorem dX11_look_60 : decode cX11_look 60 = .ok (.getfield 202, 3) := dec_2 oX11_look (of180 _) 0 202 rfl rfl
theorem dX11_look_63 : decode cX11_look 63 = .ok (.getfield 230, 3) := dec_2 oX11_look (of180 _) 0 230 rfl rfl
theorem dX11_look_66 : decode cX11_look 66 = .ok (.goto 13, 3) := dec_s2 oX11_look (of167 _) 0 13 rfl (sg16p rfl) rfl
theorem dX11_look_69 : decode cX11_look 69 = .ok (.aload_n 0, 1) := dec_0 oX11_look (of42 _) rfl
theorem dX11_look_70 : decode cX11_look 70 = .ok (.getfield 65, 3) := dec_2 oX11_look (of180 _) 0 65 rfl rfl
theorem dX11_look_73 : decode cX11_look 73 = .ok (.getfield 202, 3) := dec_2 oX11_look (of180 _) 0 202 rfl rfl
theorem dX11_look_76 : decode cX11_look 76 = .ok (.getfield 233, 3) := dec_2 oX11_look (of180 _) 0 233 rfl rfl
theorem dX11_look_79 : decode cX11_look 79 = .ok (.ireturn, 1) := dec_0 oX11_look (of172 _) rfl
theorem dX11_way_14 : decode cX11_way 14 = .ok (.aload_n 0, 1) := dec_0 oX11_way (of42 _) rfl
theorem dX11_way_15 : decode cX11_way 15 = .ok (.getfield 65, 3) := dec_2 oX11_way (of180 _) 0 65 rfl rfl
theorem dX11_way_18 : decode cX11_way 18 = .ok (.getfield 202, 3) := dec_2 oX11_way (of180 _) 0 202 rfl rfl
theorem dX11_way_21 : decode cX11_way 21 = .ok (.invokevirtual 236, 3) := dec_2 oX11_way (of182 _) 0 236 rfl rfl
theorem dX11_way_24 : decode cX11_way 24 = .ok (.iload_n 3, 1) := dec_0 oX11_way (of29 _) rfl
theorem dX11_way_25 : decode cX11_way 25 = .ok (.iconst (-1), 1) := dec_0 oX11_way (of2 _) rfl
theorem dX11_way_26 : decode cX11_way 26 = .ok (.if_icmp .ne 16, 3) := dec_s2 oX11_way (of160 _) 0 16 rfl (sg16p rfl) rfl
theorem dX11_way_29 : decode cX11_way 29 = .ok (.aload_n 0, 1) := dec_0 oX11_way (of42 _) rfl
theorem dX11_way_30 : decode cX11_way 30 = .ok (.getfield 65, 3) := dec_2 oX11_way (of180 _) 0 65 rfl rfl
theorem dX11_way_33 : decode cX11_way 33 = .ok (.getfield 202, 3) := dec_2 oX11_way (of180 _) 0 202 rfl rfl
theorem dX11_way_36 : decode cX11_way 36 = .ok (.getfield 239, 3) := dec_2 oX11_way (of180 _) 0 239 rfl rfl
theorem dX11_way_39 : decode cX11_way 39 = .ok (.goto 14, 3) := dec_s2 oX11_way (of167 _) 0 14 rfl (sg16p rfl) rfl
theorem dX11_way_42 : decode cX11_way 42 = .ok (.aload_n 0, 1) := dec_0 oX11_way (of42 _) rfl
theorem dX11_way_43 : decode cX11_way 43 = .ok (.getfield 65, 3) := dec_2 oX11_way (of180 _) 0 65 rfl rfl
theorem dX11_way_46 : decode cX11_way 46 = .ok (.getfield 202, 3) := dec_2 oX11_way (of180 _) 0 202 rfl rfl
theorem dX11_way_49 : decode cX11_way 49 = .ok (.iload_n 3, 1) := dec_0 oX11_way (of29 _) rfl
theorem dX11_way_50 : decode cX11_way 50 = .ok (.invokevirtual 242, 3) := dec_2 oX11_way (of182 _) 0 242 rfl rfl
theorem dX11_way_53 : decode cX11_way 53 = .ok (.ireturn, 1) := dec_0 oX11_way (of172 _) rfl
theorem dX11_lean_23 : decode cX11_lean 23 = .ok (.aload_n 0, 1) := dec_0 oX11_lean (of42 _) rfl
theorem dX11_lean_24 : decode cX11_lean 24 = .ok (.getfield 65, 3) := dec_2 oX11_lean (of180 _) 0 65 rfl rfl
theorem dX11_lean_27 : decode cX11_lean 27 = .ok (.getfield 202, 3) := dec_2 oX11_lean (of180 _) 0 202 rfl rfl
theorem dX11_lean_30 : decode cX11_lean 30 = .ok (.invokevirtual 236, 3) := dec_2 oX11_lean (of182 _) 0 236 rfl rfl
theorem dX11_lean_33 : decode cX11_lean 33 = .ok (.iload_n 3, 1) := dec_0 oX11_lean (of29 _) rfl
theorem dX11_lean_34 : decode cX11_lean 34 = .ok (.ifCond .ne 16, 3) := dec_s2 oX11_lean (of154 _) 0 16 rfl (sg16p rfl) rfl
theorem dX11_lean_37 : decode cX11_lean 37 = .ok (.aload_n 0, 1) := dec_0 oX11_lean (of42 _) rfl
theorem dX11_lean_38 : decode cX11_lean 38 = .ok (.getfield 65, 3) := dec_2 oX11_lean (of180 _) 0 65 rfl rfl
theorem dX11_lean_41 : decode cX11_lean 41 = .ok (.getfield 202, 3) := dec_2 oX11_lean (of180 _) 0 202 rfl rfl
theorem dX11_lean_44 : decode cX11_lean 44 = .ok (.invokevirtual 245, 3) := dec_2 oX11_lean (of182 _) 0 245 rfl rfl
theorem dX11_lean_47 : decode cX11_lean 47 = .ok (.goto 13, 3) := dec_s2 oX11_lean (of167 _) 0 13 rfl (sg16p rfl) rfl
theorem dX11_lean_50 : decode cX11_lean 50 = .ok (.aload_n 0, 1) := dec_0 oX11_lean (of42 _) rfl
theorem dX11_lean_51 : decode cX11_lean 51 = .ok (.getfield 65, 3) := dec_2 oX11_lean (of180 _) 0 65 rfl rfl
theorem dX11_lean_54 : decode cX11_lean 54 = .ok (.getfield 202, 3) := dec_2 oX11_lean (of180 _) 0 202 rfl rfl
theorem dX11_lean_57 : decode cX11_lean 57 = .ok (.invokevirtual 248, 3) := dec_2 oX11_lean (of182 _) 0 248 rfl rfl
theorem dX11_lean_60 : decode cX11_lean 60 = .ok (.ireturn, 1) := dec_0 oX11_lean (of172 _) rfl
theorem dX11_alike_11 : decode cX11_alike 11 = .ok (.aload_n 0, 1) := dec_0 oX11_alike (of42 _) rfl
theorem dX11_alike_12 : decode cX11_alike 12 = .ok (.getfield 35, 3) := dec_2 oX11_alike (of180 _) 0 35 rfl rfl
theorem dX11_alike_15 : decode cX11_alike 15 = .ok (.iload_n 2, 1) := dec_0 oX11_alike (of28 _) rfl
theorem dX11_alike_16 : decode cX11_alike 16 = .ok (.invokevirtual 251, 3) := dec_2 oX11_alike (of182 _) 0 251 rfl rfl
theorem dX11_alike_19 : decode cX11_alike 19 = .ok (.ifCond .ne 5, 3) := dec_s2 oX11_alike (of154 _) 0 5 rfl (sg16p rfl) rfl
theorem dX11_alike_24 : decode cX11_alike 24 = .ok (.aload_n 0, 1) := dec_0 oX11_alike (of42 _) rfl
theorem dX11_alike_25 : decode cX11_alike 25 = .ok (.getfield 35, 3) := dec_2 oX11_alike (of180 _) 0 35 rfl rfl
theorem dX11_alike_28 : decode cX11_alike 28 = .ok (.iload_n 1, 1) := dec_0 oX11_alike (of27 _) rfl
theorem dX11_alike_29 : decode cX11_alike 29 = .ok (.invokevirtual 254, 3) := dec_2 oX11_alike (of182 _) 0 254 rfl rfl
theorem dX11_alike_32 : decode cX11_alike 32 = .ok (.aload_n 0, 1) := dec_0 oX11_alike (of42 _) rfl
theorem dX11_alike_33 : decode cX11_alike 33 = .ok (.getfield 35, 3) := dec_2 oX11_alike (of180 _) 0 35 rfl rfl
theorem dX11_alike_36 : decode cX11_alike 36 = .ok (.iload_n 2, 1) := dec_0 oX11_alike (of28 _) rfl
theorem dX11_alike_37 : decode cX11_alike 37 = .ok (.invokevirtual 254, 3) := dec_2 oX11_alike (of182 _) 0 254 rfl rfl
theorem dX11_alike_40 : decode cX11_alike 40 = .ok (.if_icmp .eq 6, 3) := dec_s2 oX11_alike (of159 _) 0 6 rfl (sg16p rfl) rfl
theorem dX11_alike_43 : decode cX11_alike 43 = .ok (.bipush (-2), 2) := dec_s1 oX11_alike (of16 _) 254 rfl (sg8n (k := 2) rfl) rfl
theorem dX11_alike_45 : decode cX11_alike 45 = .ok (.ireturn, 1) := dec_0 oX11_alike (of172 _) rfl
theorem dX11_alike_46 : decode cX11_alike 46 = .ok (.aload_n 0, 1) := dec_0 oX11_alike (of42 _) rfl
theorem dX11_alike_47 : decode cX11_alike 47 = .ok (.getfield 65, 3) := dec_2 oX11_alike (of180 _) 0 65 rfl rfl
theorem dX11_alike_50 : decode cX11_alike 50 = .ok (.iload_n 1, 1) := dec_0 oX11_alike (of27 _) rfl
theorem dX11_alike_51 : decode cX11_alike 51 = .ok (.aload_n 0, 1) := dec_0 oX11_alike (of42 _) rfl
theorem dX11_alike_52 : decode cX11_alike 52 = .ok (.getfield 42, 3) := dec_2 oX11_alike (of180 _) 0 42 rfl rfl
theorem dX11_alike_55 : decode cX11_alike 55 = .ok (.iconst 0, 1) := dec_0 oX11_alike (of3 _) rfl
theorem dX11_alike_56 : decode cX11_alike 56 = .ok (.invokevirtual 154, 3) := dec_2 oX11_alike (of182 _) 0 154 rfl rfl
theorem dX11_alike_59 : decode cX11_alike 59 = .ok (.invokevirtual 257, 3) := dec_2 oX11_alike (of182 _) 1 1 rfl rfl
theorem dX11_alike_62 : decode cX11_alike 62 = .ok (.aload_n 0, 1) := dec_0 oX11_alike (of42 _) rfl
theorem dX11_alike_63 : decode cX11_alike 63 = .ok (.getfield 65, 3) := dec_2 oX11_alike (of180 _) 0 65 rfl rfl
theorem dX11_alike_66 : decode cX11_alike 66 = .ok (.iload_n 2, 1) := dec_0 oX11_alike (of28 _) rfl
theorem dX11_alike_67 : decode cX11_alike 67 = .ok (.invokevirtual 260, 3) := dec_2 oX11_alike (of182 _) 1 4 rfl rfl
theorem dX11_alike_70 : decode cX11_alike 70 = .ok (.aload_n 0, 1) := dec_0 oX11_alike (of42 _) rfl
theorem dX11_alike_71 : decode cX11_alike 71 = .ok (.getfield 65, 3) := dec_2 oX11_alike (of180 _) 0 65 rfl rfl
theorem dX11_alike_74 : decode cX11_alike 74 = .ok (.getfield 202, 3) := dec_2 oX11_alike (of180 _) 0 202 rfl rfl
theorem dX11_alike_77 : decode cX11_alike 77 = .ok (.invokevirtual 215, 3) := dec_2 oX11_alike (of182 _) 0 215 rfl rfl
theorem dX11_alike_80 : decode cX11_alike 80 = .ok (.ireturn, 1) := dec_0 oX11_alike (of172 _) rfl
theorem dX11_whose_12 : decode cX11_whose 12 = .ok (.aload_n 0, 1) := dec_0 oX11_whose (of42 _) rfl
theorem dX11_whose_13 : decode cX11_whose 13 = .ok (.getfield 74, 3) := dec_2 oX11_whose (of180 _) 0 74 rfl rfl
theorem dX11_whose_16 : decode cX11_whose 16 = .ok (.iload_n 1, 1) := dec_0 oX11_whose (of27 _) rfl
theorem dX11_whose_17 : decode cX11_whose 17 = .ok (.iload_n 2, 1) := dec_0 oX11_whose (of28 _) rfl
theorem dX11_whose_18 : decode cX11_whose 18 = .ok (.invokevirtual 263, 3) := dec_2 oX11_whose (of182 _) 1 7 rfl rfl
theorem dX11_whose_21 : decode cX11_whose 21 = .ok (.goto 4, 3) := dec_s2 oX11_whose (of167 _) 0 4 rfl (sg16p rfl) rfl
theorem dX11_best_22 : decode cX11_best 22 = .ok (.aload_n 0, 1) := dec_0 oX11_best (of42 _) rfl
theorem dX11_best_23 : decode cX11_best 23 = .ok (.getfield 74, 3) := dec_2 oX11_best (of180 _) 0 74 rfl rfl
theorem dX11_best_26 : decode cX11_best 26 = .ok (.iload_n 1, 1) := dec_0 oX11_best (of27 _) rfl
theorem dX11_best_27 : decode cX11_best 27 = .ok (.aload_n 0, 1) := dec_0 oX11_best (of42 _) rfl
theorem dX11_best_28 : decode cX11_best 28 = .ok (.getfield 42, 3) := dec_2 oX11_best (of180 _) 0 42 rfl rfl
theorem dX11_best_31 : decode cX11_best 31 = .ok (.iconst 0, 1) := dec_0 oX11_best (of3 _) rfl
theorem dX11_best_32 : decode cX11_best 32 = .ok (.invokevirtual 154, 3) := dec_2 oX11_best (of182 _) 0 154 rfl rfl
theorem dX11_best_35 : decode cX11_best 35 = .ok (.invokevirtual 269, 3) := dec_2 oX11_best (of182 _) 1 13 rfl rfl
theorem dX11_best_38 : decode cX11_best 38 = .ok (.iload_n 2, 1) := dec_0 oX11_best (of28 _) rfl
theorem dX11_best_39 : decode cX11_best 39 = .ok (.ifCond .ne 13, 3) := dec_s2 oX11_best (of154 _) 0 13 rfl (sg16p rfl) rfl
theorem dX11_best_42 : decode cX11_best 42 = .ok (.aload_n 0, 1) := dec_0 oX11_best (of42 _) rfl
theorem dX11_best_43 : decode cX11_best 43 = .ok (.getfield 74, 3) := dec_2 oX11_best (of180 _) 0 74 rfl rfl
theorem dX11_best_46 : decode cX11_best 46 = .ok (.getfield 272, 3) := dec_2 oX11_best (of180 _) 1 16 rfl rfl
theorem dX11_best_49 : decode cX11_best 49 = .ok (.goto 10, 3) := dec_s2 oX11_best (of167 _) 0 10 rfl (sg16p rfl) rfl
theorem dX11_best_52 : decode cX11_best 52 = .ok (.aload_n 0, 1) := dec_0 oX11_best (of42 _) rfl
theorem dX11_best_53 : decode cX11_best 53 = .ok (.getfield 74, 3) := dec_2 oX11_best (of180 _) 0 74 rfl rfl
theorem dX11_best_56 : decode cX11_best 56 = .ok (.getfield 275, 3) := dec_2 oX11_best (of180 _) 1 19 rfl rfl
theorem dX11_best_59 : decode cX11_best 59 = .ok (.ireturn, 1) := dec_0 oX11_best (of172 _) rfl
theorem dX11_search_23 : decode cX11_search 23 = .ok (.aload_n 0, 1) := dec_0 oX11_search (of42 _) rfl
theorem dX11_search_24 : decode cX11_search 24 = .ok (.getfield 74, 3) := dec_2 oX11_search (of180 _) 0 74 rfl rfl
theorem dX11_search_27 : decode cX11_search 27 = .ok (.iload_n 1, 1) := dec_0 oX11_search (of27 _) rfl
theorem dX11_search_28 : decode cX11_search 28 = .ok (.invokevirtual 278, 3) := dec_2 oX11_search (of182 _) 1 22 rfl rfl
theorem dX11_search_31 : decode cX11_search 31 = .ok (.aload_n 0, 1) := dec_0 oX11_search (of42 _) rfl
theorem dX11_search_32 : decode cX11_search 32 = .ok (.getfield 74, 3) := dec_2 oX11_search (of180 _) 0 74 rfl rfl
theorem dX11_search_35 : decode cX11_search 35 = .ok (.getfield 281, 3) := dec_2 oX11_search (of180 _) 1 25 rfl rfl
theorem dX11_search_38 : decode cX11_search 38 = .ok (.iload_n 2, 1) := dec_0 oX11_search (of28 _) rfl
theorem dX11_search_39 : decode cX11_search 39 = .ok (.iaload, 1) := dec_0 oX11_search (of46 _) rfl
theorem dX11_search_40 : decode cX11_search 40 = .ok (.ireturn, 1) := dec_0 oX11_search (of172 _) rfl
theorem dX11_match_26 : decode cX11_match 26 = .ok (.aload_n 0, 1) := dec_0 oX11_match (of42 _) rfl
theorem dX11_match_27 : decode cX11_match 27 = .ok (.getfield 74, 3) := dec_2 oX11_match (of180 _) 0 74 rfl rfl
theorem dX11_match_30 : decode cX11_match 30 = .ok (.iload_n 1, 1) := dec_0 oX11_match (of27 _) rfl
theorem dX11_match_31 : decode cX11_match 31 = .ok (.invokevirtual 284, 3) := dec_2 oX11_match (of182 _) 1 28 rfl rfl
theorem dX11_match_34 : decode cX11_match 34 = .ok (.iload_n 3, 1) := dec_0 oX11_match (of29 _) rfl
theorem dX11_match_35 : decode cX11_match 35 = .ok (.ifCond .ne 14, 3) := dec_s2 oX11_match (of154 _) 0 14 rfl (sg16p rfl) rfl
theorem dX11_match_38 : decode cX11_match 38 = .ok (.aload_n 0, 1) := dec_0 oX11_match (of42 _) rfl
theorem dX11_match_39 : decode cX11_match 39 = .ok (.getfield 74, 3) := dec_2 oX11_match (of180 _) 0 74 rfl rfl
theorem dX11_match_42 : decode cX11_match 42 = .ok (.iload_n 2, 1) := dec_0 oX11_match (of28 _) rfl
theorem dX11_match_43 : decode cX11_match 43 = .ok (.invokevirtual 287, 3) := dec_2 oX11_match (of182 _) 1 31 rfl rfl
theorem dX11_match_46 : decode cX11_match 46 = .ok (.goto 11, 3) := dec_s2 oX11_match (of167 _) 0 11 rfl (sg16p rfl) rfl
theorem dX11_match_49 : decode cX11_match 49 = .ok (.aload_n 0, 1) := dec_0 oX11_match (of42 _) rfl
theorem dX11_match_50 : decode cX11_match 50 = .ok (.getfield 74, 3) := dec_2 oX11_match (of180 _) 0 74 rfl rfl
theorem dX11_match_53 : decode cX11_match 53 = .ok (.iload_n 2, 1) := dec_0 oX11_match (of28 _) rfl
theorem dX11_match_54 : decode cX11_match 54 = .ok (.invokevirtual 290, 3) := dec_2 oX11_match (of182 _) 1 34 rfl rfl
theorem dX11_match_57 : decode cX11_match 57 = .ok (.ireturn, 1) := dec_0 oX11_match (of172 _) rfl
theorem dX11_within_17 : decode cX11_within 17 = .ok (.aload_n 0, 1) := dec_0 oX11_within (of42 _) rfl
theorem dX11_within_18 : decode cX11_within 18 = .ok (.getfield 74, 3) := dec_2 oX11_within (of180 _) 0 74 rfl rfl
theorem dX11_within_21 : decode cX11_within 21 = .ok (.iload_n 1, 1) := dec_0 oX11_within (of27 _) rfl
theorem dX11_within_22 : decode cX11_within 22 = .ok (.invokevirtual 284, 3) := dec_2 oX11_within (of182 _) 1 28 rfl rfl
theorem dX11_within_25 : decode cX11_within 25 = .ok (.aload_n 0, 1) := dec_0 oX11_within (of42 _) rfl
theorem dX11_within_26 : decode cX11_within 26 = .ok (.getfield 74, 3) := dec_2 oX11_within (of180 _) 0 74 rfl rfl
theorem dX11_within_29 : decode cX11_within 29 = .ok (.iload_n 2, 1) := dec_0 oX11_within (of28 _) rfl
theorem dX11_within_30 : decode cX11_within 30 = .ok (.invokevirtual 293, 3) := dec_2 oX11_within (of182 _) 1 37 rfl rfl
theorem dX11_within_33 : decode cX11_within 33 = .ok (.ireturn, 1) := dec_0 oX11_within (of172 _) rfl
theorem dX11_cover_17 : decode cX11_cover 17 = .ok (.aload_n 0, 1) := dec_0 oX11_cover (of42 _) rfl
theorem dX11_cover_18 : decode cX11_cover 18 = .ok (.getfield 74, 3) := dec_2 oX11_cover (of180 _) 0 74 rfl rfl
theorem dX11_cover_21 : decode cX11_cover 21 = .ok (.iload_n 1, 1) := dec_0 oX11_cover (of27 _) rfl
theorem dX11_cover_22 : decode cX11_cover 22 = .ok (.invokevirtual 284, 3) := dec_2 oX11_cover (of182 _) 1 28 rfl rfl
theorem dX11_cover_25 : decode cX11_cover 25 = .ok (.aload_n 0, 1) := dec_0 oX11_cover (of42 _) rfl
theorem dX11_cover_26 : decode cX11_cover 26 = .ok (.getfield 74, 3) := dec_2 oX11_cover (of180 _) 0 74 rfl rfl
theorem dX11_cover_29 : decode cX11_cover 29 = .ok (.iload_n 2, 1) := dec_0 oX11_cover (of28 _) rfl
theorem dX11_cover_30 : decode cX11_cover 30 = .ok (.aload_n 0, 1) := dec_0 oX11_cover (of42 _) rfl
theorem dX11_cover_31 : decode cX11_cover 31 = .ok (.getfield 35, 3) := dec_2 oX11_cover (of180 _) 0 35 rfl rfl
theorem dX11_cover_34 : decode cX11_cover 34 = .ok (.iload_n 1, 1) := dec_0 oX11_cover (of27 _) rfl
theorem dX11_cover_35 : decode cX11_cover 35 = .ok (.invokevirtual 254, 3) := dec_2 oX11_cover (of182 _) 0 254 rfl rfl
theorem dX11_cover_38 : decode cX11_cover 38 = .ok (.invokevirtual 296, 3) := dec_2 oX11_cover (of182 _) 1 40 rfl rfl
theorem dX11_cover_41 : decode cX11_cover 41 = .ok (.ireturn, 1) := dec_0 oX11_cover (of172 _) rfl
theorem dX11_needs_12 : decode cX11_needs 12 = .ok (.aload_n 0, 1) := dec_0 oX11_needs (of42 _) rfl
theorem dX11_needs_13 : decode cX11_needs 13 = .ok (.getfield 74, 3) := dec_2 oX11_needs (of180 _) 0 74 rfl rfl
theorem dX11_needs_16 : decode cX11_needs 16 = .ok (.iload_n 1, 1) := dec_0 oX11_needs (of27 _) rfl
theorem dX11_needs_17 : decode cX11_needs 17 = .ok (.iload_n 2, 1) := dec_0 oX11_needs (of28 _) rfl
theorem dX11_needs_18 : decode cX11_needs 18 = .ok (.invokevirtual 302, 3) := dec_2 oX11_needs (of182 _) 1 46 rfl rfl
theorem dX11_needs_21 : decode cX11_needs 21 = .ok (.goto 4, 3) := dec_s2 oX11_needs (of167 _) 0 4 rfl (sg16p rfl) rfl
theorem dX11_rank_14 : decode cX11_rank 14 = .ok (.aload_n 0, 1) := dec_0 oX11_rank (of42 _) rfl
theorem dX11_rank_15 : decode cX11_rank 15 = .ok (.getfield 74, 3) := dec_2 oX11_rank (of180 _) 0 74 rfl rfl
theorem dX11_rank_18 : decode cX11_rank 18 = .ok (.iload_n 1, 1) := dec_0 oX11_rank (of27 _) rfl
theorem dX11_rank_19 : decode cX11_rank 19 = .ok (.invokevirtual 305, 3) := dec_2 oX11_rank (of182 _) 1 49 rfl rfl
theorem dX11_rank_22 : decode cX11_rank 22 = .ok (.aload_n 0, 1) := dec_0 oX11_rank (of42 _) rfl
theorem dX11_rank_23 : decode cX11_rank 23 = .ok (.getfield 74, 3) := dec_2 oX11_rank (of180 _) 0 74 rfl rfl
theorem dX11_rank_26 : decode cX11_rank 26 = .ok (.iload_n 2, 1) := dec_0 oX11_rank (of28 _) rfl
theorem dX11_rank_27 : decode cX11_rank 27 = .ok (.invokevirtual 308, 3) := dec_2 oX11_rank (of182 _) 1 52 rfl rfl
theorem dX11_rank_30 : decode cX11_rank 30 = .ok (.ireturn, 1) := dec_0 oX11_rank (of172 _) rfl
theorem dX11_kth_26 : decode cX11_kth 26 = .ok (.aload_n 0, 1) := dec_0 oX11_kth (of42 _) rfl
theorem dX11_kth_27 : decode cX11_kth 27 = .ok (.getfield 74, 3) := dec_2 oX11_kth (of180 _) 0 74 rfl rfl
theorem dX11_kth_30 : decode cX11_kth 30 = .ok (.iload_n 1, 1) := dec_0 oX11_kth (of27 _) rfl
theorem dX11_kth_31 : decode cX11_kth 31 = .ok (.invokevirtual 305, 3) := dec_2 oX11_kth (of182 _) 1 49 rfl rfl
theorem dX11_kth_34 : decode cX11_kth 34 = .ok (.aload_n 0, 1) := dec_0 oX11_kth (of42 _) rfl
theorem dX11_kth_35 : decode cX11_kth 35 = .ok (.getfield 74, 3) := dec_2 oX11_kth (of180 _) 0 74 rfl rfl
theorem dX11_kth_38 : decode cX11_kth 38 = .ok (.iload_n 2, 1) := dec_0 oX11_kth (of28 _) rfl
theorem dX11_kth_39 : decode cX11_kth 39 = .ok (.invokevirtual 311, 3) := dec_2 oX11_kth (of182 _) 1 55 rfl rfl
theorem dX11_kth_42 : decode cX11_kth 42 = .ok (.istore 4, 2) := dec_1 oX11_kth (of54 _) 4 rfl rfl
theorem dX11_kth_44 : decode cX11_kth 44 = .ok (.iload_n 3, 1) := dec_0 oX11_kth (of29 _) rfl
theorem dX11_kth_45 : decode cX11_kth 45 = .ok (.ifCond .ne 8, 3) := dec_s2 oX11_kth (of154 _) 0 8 rfl (sg16p rfl) rfl
theorem dX11_kth_48 : decode cX11_kth 48 = .ok (.iload 4, 2) := dec_1 oX11_kth (of21 _) 4 rfl rfl
theorem dX11_kth_50 : decode cX11_kth 50 = .ok (.goto 12, 3) := dec_s2 oX11_kth (of167 _) 0 12 rfl (sg16p rfl) rfl
theorem dX11_kth_53 : decode cX11_kth 53 = .ok (.aload_n 0, 1) := dec_0 oX11_kth (of42 _) rfl
theorem dX11_kth_54 : decode cX11_kth 54 = .ok (.getfield 74, 3) := dec_2 oX11_kth (of180 _) 0 74 rfl rfl
theorem dX11_kth_57 : decode cX11_kth 57 = .ok (.iload 4, 2) := dec_1 oX11_kth (of21 _) 4 rfl rfl
theorem dX11_kth_59 : decode cX11_kth 59 = .ok (.invokevirtual 314, 3) := dec_2 oX11_kth (of182 _) 1 58 rfl rfl
theorem dX11_kth_62 : decode cX11_kth 62 = .ok (.ireturn, 1) := dec_0 oX11_kth (of172 _) rfl
theorem dX11_slack_11 : decode cX11_slack 11 = .ok (.aload_n 0, 1) := dec_0 oX11_slack (of42 _) rfl
theorem dX11_slack_12 : decode cX11_slack 12 = .ok (.getfield 74, 3) := dec_2 oX11_slack (of180 _) 0 74 rfl rfl
theorem dX11_slack_15 : decode cX11_slack 15 = .ok (.iload_n 1, 1) := dec_0 oX11_slack (of27 _) rfl
theorem dX11_slack_16 : decode cX11_slack 16 = .ok (.invokevirtual 317, 3) := dec_2 oX11_slack (of182 _) 1 61 rfl rfl
theorem dX11_slack_19 : decode cX11_slack 19 = .ok (.goto 4, 3) := dec_s2 oX11_slack (of167 _) 0 4 rfl (sg16p rfl) rfl
theorem dX11_turns_13 : decode cX11_turns 13 = .ok (.aload_n 0, 1) := dec_0 oX11_turns (of42 _) rfl
theorem dX11_turns_14 : decode cX11_turns 14 = .ok (.getfield 74, 3) := dec_2 oX11_turns (of180 _) 0 74 rfl rfl
theorem dX11_turns_17 : decode cX11_turns 17 = .ok (.iload_n 1, 1) := dec_0 oX11_turns (of27 _) rfl
theorem dX11_turns_18 : decode cX11_turns 18 = .ok (.invokevirtual 305, 3) := dec_2 oX11_turns (of182 _) 1 49 rfl rfl
theorem dX11_turns_21 : decode cX11_turns 21 = .ok (.aload_n 0, 1) := dec_0 oX11_turns (of42 _) rfl
theorem dX11_turns_22 : decode cX11_turns 22 = .ok (.getfield 74, 3) := dec_2 oX11_turns (of180 _) 0 74 rfl rfl
theorem dX11_turns_25 : decode cX11_turns 25 = .ok (.invokevirtual 320, 3) := dec_2 oX11_turns (of182 _) 1 64 rfl rfl
theorem dX11_turns_28 : decode cX11_turns 28 = .ok (.ireturn, 1) := dec_0 oX11_turns (of172 _) rfl
theorem dX11_near_30 : decode cX11_near 30 = .ok (.aload_n 0, 1) := dec_0 oX11_near (of42 _) rfl
theorem dX11_near_31 : decode cX11_near 31 = .ok (.getfield 81, 3) := dec_2 oX11_near (of180 _) 0 81 rfl rfl
theorem dX11_near_34 : decode cX11_near 34 = .ok (.iload_n 1, 1) := dec_0 oX11_near (of27 _) rfl
theorem dX11_near_35 : decode cX11_near 35 = .ok (.iload_n 2, 1) := dec_0 oX11_near (of28 _) rfl
theorem dX11_near_36 : decode cX11_near 36 = .ok (.invokevirtual 323, 3) := dec_2 oX11_near (of182 _) 1 67 rfl rfl
theorem dX11_near_39 : decode cX11_near 39 = .ok (.iload_n 3, 1) := dec_0 oX11_near (of29 _) rfl
theorem dX11_near_40 : decode cX11_near 40 = .ok (.ifCond .ne 13, 3) := dec_s2 oX11_near (of154 _) 0 13 rfl (sg16p rfl) rfl
theorem dX11_near_43 : decode cX11_near 43 = .ok (.aload_n 0, 1) := dec_0 oX11_near (of42 _) rfl
theorem dX11_near_44 : decode cX11_near 44 = .ok (.getfield 81, 3) := dec_2 oX11_near (of180 _) 0 81 rfl rfl
theorem dX11_near_47 : decode cX11_near 47 = .ok (.getfield 326, 3) := dec_2 oX11_near (of180 _) 1 70 rfl rfl
theorem dX11_near_50 : decode cX11_near 50 = .ok (.goto 10, 3) := dec_s2 oX11_near (of167 _) 0 10 rfl (sg16p rfl) rfl
theorem dX11_near_53 : decode cX11_near 53 = .ok (.aload_n 0, 1) := dec_0 oX11_near (of42 _) rfl
theorem dX11_near_54 : decode cX11_near 54 = .ok (.getfield 81, 3) := dec_2 oX11_near (of180 _) 0 81 rfl rfl
theorem dX11_near_57 : decode cX11_near 57 = .ok (.getfield 329, 3) := dec_2 oX11_near (of180 _) 1 73 rfl rfl
theorem dX11_near_60 : decode cX11_near 60 = .ok (.ireturn, 1) := dec_0 oX11_near (of172 _) rfl
theorem dX11_whole_23 : decode cX11_whole 23 = .ok (.iload_n 1, 1) := dec_0 oX11_whole (of27 _) rfl
theorem dX11_whole_24 : decode cX11_whole 24 = .ok (.ifCond .ne 5, 3) := dec_s2 oX11_whole (of154 _) 0 5 rfl (sg16p rfl) rfl
theorem dX11_whole_29 : decode cX11_whole 29 = .ok (.aload_n 0, 1) := dec_0 oX11_whole (of42 _) rfl
theorem dX11_whole_30 : decode cX11_whole 30 = .ok (.getfield 28, 3) := dec_2 oX11_whole (of180 _) 0 28 rfl rfl
theorem dX11_whole_33 : decode cX11_whole 33 = .ok (.iload_n 2, 1) := dec_0 oX11_whole (of28 _) rfl
theorem dX11_whole_34 : decode cX11_whole 34 = .ok (.invokevirtual 359, 3) := dec_2 oX11_whole (of182 _) 1 103 rfl rfl
theorem dX11_whole_37 : decode cX11_whole 37 = .ok (.ireturn, 1) := dec_0 oX11_whole (of172 _) rfl
theorem dX11_restore_27 : decode cX11_restore 27 = .ok (.aload_n 0, 1) := dec_0 oX11_restore (of42 _) rfl
theorem dX11_restore_28 : decode cX11_restore 28 = .ok (.aload_n 0, 1) := dec_0 oX11_restore (of42 _) rfl
theorem dX11_restore_29 : decode cX11_restore 29 = .ok (.getfield 56, 3) := dec_2 oX11_restore (of180 _) 0 56 rfl rfl
theorem dX11_restore_32 : decode cX11_restore 32 = .ok (.iload_n 1, 1) := dec_0 oX11_restore (of27 _) rfl
theorem dX11_restore_33 : decode cX11_restore 33 = .ok (.aaload, 1) := dec_0 oX11_restore (of50 _) rfl
theorem dX11_restore_34 : decode cX11_restore 34 = .ok (.invokevirtual 106, 3) := dec_2 oX11_restore (of182 _) 0 106 rfl rfl
theorem dX11_restore_37 : decode cX11_restore 37 = .ok (.iconst 1, 1) := dec_0 oX11_restore (of4 _) rfl
theorem dX11_restore_38 : decode cX11_restore 38 = .ok (.ireturn, 1) := dec_0 oX11_restore (of172 _) rfl
theorem dX11_slotsHeld_25 : decode cX11_slotsHeld 25 = .ok (.iinc 1 1, 3) := dec_ii oX11_slotsHeld (of132 _) 1 1 rfl (sg8p rfl) rfl
theorem dX12_feed_13 : decode cX12_feed 13 = .ok (.iconst (-1), 1) := dec_0 oX12_feed (of2 _) rfl
theorem dX12_feed_14 : decode cX12_feed 14 = .ok (.ireturn, 1) := dec_0 oX12_feed (of172 _) rfl
theorem dX12_byteAt_8 : decode cX12_byteAt 8 = .ok (.aload_n 0, 1) := dec_0 oX12_byteAt (of42 _) rfl
theorem dX12_byteAt_9 : decode cX12_byteAt 9 = .ok (.getfield 17, 3) := dec_2 oX12_byteAt (of180 _) 0 17 rfl rfl
theorem dX12_byteAt_12 : decode cX12_byteAt 12 = .ok (.iload_n 1, 1) := dec_0 oX12_byteAt (of27 _) rfl
theorem dX12_byteAt_13 : decode cX12_byteAt 13 = .ok (.baload, 1) := dec_0 oX12_byteAt (of51 _) rfl
theorem dX12_byteAt_14 : decode cX12_byteAt 14 = .ok (.sipush 255, 3) := dec_s2 oX12_byteAt (of17 _) 0 255 rfl (sg16p rfl) rfl
theorem dX12_byteAt_17 : decode cX12_byteAt 17 = .ok (.iand, 1) := dec_0 oX12_byteAt (of126 _) rfl
theorem dX12_byteAt_18 : decode cX12_byteAt 18 = .ok (.goto 4, 3) := dec_s2 oX12_byteAt (of167 _) 0 4 rfl (sg16p rfl) rfl
theorem dX12_isDigit_0 : decode cX12_isDigit 0 = .ok (.iload_n 0, 1) := dec_0 oX12_isDigit (of26 _) rfl
theorem dX12_isDigit_1 : decode cX12_isDigit 1 = .ok (.bipush 48, 2) := dec_s1 oX12_isDigit (of16 _) 48 rfl (sg8p rfl) rfl
theorem dX12_isDigit_3 : decode cX12_isDigit 3 = .ok (.if_icmp .lt 13, 3) := dec_s2 oX12_isDigit (of161 _) 0 13 rfl (sg16p rfl) rfl
theorem dX12_isDigit_6 : decode cX12_isDigit 6 = .ok (.iload_n 0, 1) := dec_0 oX12_isDigit (of26 _) rfl
theorem dX12_isDigit_7 : decode cX12_isDigit 7 = .ok (.bipush 57, 2) := dec_s1 oX12_isDigit (of16 _) 57 rfl (sg8p rfl) rfl
theorem dX12_isDigit_9 : decode cX12_isDigit 9 = .ok (.if_icmp .gt 7, 3) := dec_s2 oX12_isDigit (of163 _) 0 7 rfl (sg16p rfl) rfl
theorem dX12_isDigit_12 : decode cX12_isDigit 12 = .ok (.iconst 1, 1) := dec_0 oX12_isDigit (of4 _) rfl
theorem dX12_isDigit_13 : decode cX12_isDigit 13 = .ok (.goto 4, 3) := dec_s2 oX12_isDigit (of167 _) 0 4 rfl (sg16p rfl) rfl
theorem dX12_isDigit_16 : decode cX12_isDigit 16 = .ok (.iconst 0, 1) := dec_0 oX12_isDigit (of3 _) rfl
theorem dX12_isDigit_17 : decode cX12_isDigit 17 = .ok (.ireturn, 1) := dec_0 oX12_isDigit (of172 _) rfl
theorem dX12_isLetter_0 : decode cX12_isLetter 0 = .ok (.iload_n 0, 1) := dec_0 oX12_isLetter (of26 _) rfl
theorem dX12_isLetter_1 : decode cX12_isLetter 1 = .ok (.bipush 97, 2) := dec_s1 oX12_isLetter (of16 _) 97 rfl (sg8p rfl) rfl
theorem dX12_isLetter_3 : decode cX12_isLetter 3 = .ok (.if_icmp .lt 13, 3) := dec_s2 oX12_isLetter (of161 _) 0 13 rfl (sg16p rfl) rfl
theorem dX12_isLetter_6 : decode cX12_isLetter 6 = .ok (.iload_n 0, 1) := dec_0 oX12_isLetter (of26 _) rfl
theorem dX12_isLetter_7 : decode cX12_isLetter 7 = .ok (.bipush 122, 2) := dec_s1 oX12_isLetter (of16 _) 122 rfl (sg8p rfl) rfl
theorem dX12_isLetter_9 : decode cX12_isLetter 9 = .ok (.if_icmp .gt 7, 3) := dec_s2 oX12_isLetter (of163 _) 0 7 rfl (sg16p rfl) rfl
theorem dX12_isLetter_12 : decode cX12_isLetter 12 = .ok (.iconst 1, 1) := dec_0 oX12_isLetter (of4 _) rfl
theorem dX12_isLetter_13 : decode cX12_isLetter 13 = .ok (.goto 4, 3) := dec_s2 oX12_isLetter (of167 _) 0 4 rfl (sg16p rfl) rfl
theorem dX12_isLetter_16 : decode cX12_isLetter 16 = .ok (.iconst 0, 1) := dec_0 oX12_isLetter (of3 _) rfl
theorem dX12_isLetter_17 : decode cX12_isLetter 17 = .ok (.ireturn, 1) := dec_0 oX12_isLetter (of172 _) rfl
theorem dX12_cut_43 : decode cX12_cut 43 = .ok (.iload_n 2, 1) := dec_0 oX12_cut (of28 _) rfl
theorem dX12_cut_44 : decode cX12_cut 44 = .ok (.bipush 9, 2) := dec_s1 oX12_cut (of16 _) 9 rfl (sg8p rfl) rfl
theorem dX12_cut_46 : decode cX12_cut 46 = .ok (.if_icmp .eq 21, 3) := dec_s2 oX12_cut (of159 _) 0 21 rfl (sg16p rfl) rfl
theorem dX12_cut_49 : decode cX12_cut 49 = .ok (.iload_n 2, 1) := dec_0 oX12_cut (of28 _) rfl
theorem dX12_cut_50 : decode cX12_cut 50 = .ok (.bipush 10, 2) := dec_s1 oX12_cut (of16 _) 10 rfl (sg8p rfl) rfl
theorem dX12_cut_52 : decode cX12_cut 52 = .ok (.if_icmp .eq 15, 3) := dec_s2 oX12_cut (of159 _) 0 15 rfl (sg16p rfl) rfl
theorem dX12_cut_55 : decode cX12_cut 55 = .ok (.iload_n 2, 1) := dec_0 oX12_cut (of28 _) rfl
theorem dX12_cut_56 : decode cX12_cut 56 = .ok (.bipush 13, 2) := dec_s1 oX12_cut (of16 _) 13 rfl (sg8p rfl) rfl
theorem dX12_cut_58 : decode cX12_cut 58 = .ok (.if_icmp .eq 9, 3) := dec_s2 oX12_cut (of159 _) 0 9 rfl (sg16p rfl) rfl
theorem dX12_cut_61 : decode cX12_cut 61 = .ok (.iload_n 2, 1) := dec_0 oX12_cut (of28 _) rfl
theorem dX12_cut_62 : decode cX12_cut 62 = .ok (.bipush 32, 2) := dec_s1 oX12_cut (of16 _) 32 rfl (sg8p rfl) rfl
theorem dX12_cut_64 : decode cX12_cut 64 = .ok (.if_icmp .ne 9, 3) := dec_s2 oX12_cut (of160 _) 0 9 rfl (sg16p rfl) rfl
theorem dX12_cut_67 : decode cX12_cut 67 = .ok (.iinc 1 1, 3) := dec_ii oX12_cut (of132 _) 1 1 rfl (sg8p rfl) rfl
theorem dX12_cut_70 : decode cX12_cut 70 = .ok (.goto 221, 3) := dec_s2 oX12_cut (of167 _) 0 221 rfl (sg16p rfl) rfl
theorem dX12_cut_73 : decode cX12_cut 73 = .ok (.iload_n 2, 1) := dec_0 oX12_cut (of28 _) rfl
theorem dX12_cut_74 : decode cX12_cut 74 = .ok (.invokestatic 150, 3) := dec_2 oX12_cut (of184 _) 0 150 rfl rfl
theorem dX12_cut_77 : decode cX12_cut 77 = .ok (.ifCond .eq 119, 3) := dec_s2 oX12_cut (of153 _) 0 119 rfl (sg16p rfl) rfl
theorem dX12_cut_80 : decode cX12_cut 80 = .ok (.iconst 0, 1) := dec_0 oX12_cut (of3 _) rfl
theorem dX12_cut_81 : decode cX12_cut 81 = .ok (.istore_n 3, 1) := dec_0 oX12_cut (of62 _) rfl
theorem dX12_cut_82 : decode cX12_cut 82 = .ok (.lconst 0, 1) := dec_0 oX12_cut (of9 _) rfl
theorem dX12_cut_83 : decode cX12_cut 83 = .ok (.lstore 4, 2) := dec_1 oX12_cut (of55 _) 4 rfl rfl
theorem dX12_cut_85 : decode cX12_cut 85 = .ok (.aload_n 0, 1) := dec_0 oX12_cut (of42 _) rfl
theorem dX12_cut_86 : decode cX12_cut 86 = .ok (.iload_n 1, 1) := dec_0 oX12_cut (of27 _) rfl
theorem dX12_cut_87 : decode cX12_cut 87 = .ok (.iload_n 3, 1) := dec_0 oX12_cut (of29 _) rfl
theorem dX12_cut_88 : decode cX12_cut 88 = .ok (.iadd, 1) := dec_0 oX12_cut (of96 _) rfl
theorem dX12_cut_89 : decode cX12_cut 89 = .ok (.invokevirtual 142, 3) := dec_2 oX12_cut (of182 _) 0 142 rfl rfl
theorem dX12_cut_92 : decode cX12_cut 92 = .ok (.invokestatic 150, 3) := dec_2 oX12_cut (of184 _) 0 150 rfl rfl
theorem dX12_cut_95 : decode cX12_cut 95 = .ok (.ifCond .eq 29, 3) := dec_s2 oX12_cut (of153 _) 0 29 rfl (sg16p rfl) rfl
theorem dX12_cut_98 : decode cX12_cut 98 = .ok (.iload_n 3, 1) := dec_0 oX12_cut (of29 _) rfl
theorem dX12_cut_99 : decode cX12_cut 99 = .ok (.bipush 8, 2) := dec_s1 oX12_cut (of16 _) 8 rfl (sg8p rfl) rfl
theorem dX12_cut_101 : decode cX12_cut 101 = .ok (.if_icmp .ge 17, 3) := dec_s2 oX12_cut (of162 _) 0 17 rfl (sg16p rfl) rfl
theorem dX12_cut_104 : decode cX12_cut 104 = .ok (.lload 4, 2) := dec_1 oX12_cut (of22 _) 4 rfl rfl
theorem dX12_cut_106 : decode cX12_cut 106 = .ok (.aload_n 0, 1) := dec_0 oX12_cut (of42 _) rfl
theorem dX12_cut_107 : decode cX12_cut 107 = .ok (.iload_n 1, 1) := dec_0 oX12_cut (of27 _) rfl
theorem dX12_cut_108 : decode cX12_cut 108 = .ok (.iload_n 3, 1) := dec_0 oX12_cut (of29 _) rfl
theorem dX12_cut_109 : decode cX12_cut 109 = .ok (.iadd, 1) := dec_0 oX12_cut (of96 _) rfl
theorem dX12_cut_110 : decode cX12_cut 110 = .ok (.invokevirtual 142, 3) := dec_2 oX12_cut (of182 _) 0 142 rfl rfl
theorem dX12_cut_113 : decode cX12_cut 113 = .ok (.invokestatic 135, 3) := dec_2 oX12_cut (of184 _) 0 135 rfl rfl
theorem dX12_cut_116 : decode cX12_cut 116 = .ok (.lstore 4, 2) := dec_1 oX12_cut (of55 _) 4 rfl rfl
theorem dX12_cut_118 : decode cX12_cut 118 = .ok (.iinc 3 1, 3) := dec_ii oX12_cut (of132 _) 3 1 rfl (sg8p rfl) rfl
theorem dX12_cut_121 : decode cX12_cut 121 = .ok (.goto (-36), 3) := dec_s2 oX12_cut (of167 _) 255 220 rfl (sg16n (k := 36) rfl) rfl
theorem dX12_cut_124 : decode cX12_cut 124 = .ok (.iload_n 3, 1) := dec_0 oX12_cut (of29 _) rfl
theorem dX12_cut_125 : decode cX12_cut 125 = .ok (.bipush 8, 2) := dec_s1 oX12_cut (of16 _) 8 rfl (sg8p rfl) rfl
theorem dX12_cut_127 : decode cX12_cut 127 = .ok (.if_icmp .le 7, 3) := dec_s2 oX12_cut (of164 _) 0 7 rfl (sg16p rfl) rfl
theorem dX12_cut_130 : decode cX12_cut 130 = .ok (.iconst 3, 1) := dec_0 oX12_cut (of6 _) rfl
theorem dX12_cut_131 : decode cX12_cut 131 = .ok (.goto 4, 3) := dec_s2 oX12_cut (of167 _) 0 4 rfl (sg16p rfl) rfl
theorem dX12_cut_134 : decode cX12_cut 134 = .ok (.iconst 1, 1) := dec_0 oX12_cut (of4 _) rfl
theorem dX12_cut_135 : decode cX12_cut 135 = .ok (.istore 6, 2) := dec_1 oX12_cut (of54 _) 6 rfl rfl
theorem dX12_cut_137 : decode cX12_cut 137 = .ok (.iload_n 3, 1) := dec_0 oX12_cut (of29 _) rfl
theorem dX12_cut_138 : decode cX12_cut 138 = .ok (.bipush 8, 2) := dec_s1 oX12_cut (of16 _) 8 rfl (sg8p rfl) rfl
theorem dX12_cut_140 : decode cX12_cut 140 = .ok (.if_icmp .gt 39, 3) := dec_s2 oX12_cut (of163 _) 0 39 rfl (sg16p rfl) rfl
theorem dX12_cut_143 : decode cX12_cut 143 = .ok (.iconst 0, 1) := dec_0 oX12_cut (of3 _) rfl
theorem dX12_cut_144 : decode cX12_cut 144 = .ok (.istore 7, 2) := dec_1 oX12_cut (of54 _) 7 rfl rfl
theorem dX12_cut_146 : decode cX12_cut 146 = .ok (.iload 7, 2) := dec_1 oX12_cut (of21 _) 7 rfl rfl
theorem dX12_cut_148 : decode cX12_cut 148 = .ok (.bipush 13, 2) := dec_s1 oX12_cut (of16 _) 13 rfl (sg8p rfl) rfl
theorem dX12_cut_150 : decode cX12_cut 150 = .ok (.if_icmp .ge 29, 3) := dec_s2 oX12_cut (of162 _) 0 29 rfl (sg16p rfl) rfl
theorem dX12_cut_153 : decode cX12_cut 153 = .ok (.aload_n 0, 1) := dec_0 oX12_cut (of42 _) rfl
theorem dX12_cut_154 : decode cX12_cut 154 = .ok (.getfield 34, 3) := dec_2 oX12_cut (of180 _) 0 34 rfl rfl
theorem dX12_cut_157 : decode cX12_cut 157 = .ok (.iload 7, 2) := dec_1 oX12_cut (of21 _) 7 rfl rfl
theorem dX12_cut_159 : decode cX12_cut 159 = .ok (.laload, 1) := dec_0 oX12_cut (of47 _) rfl
theorem dX12_cut_160 : decode cX12_cut 160 = .ok (.lload 4, 2) := dec_1 oX12_cut (of22 _) 4 rfl rfl
theorem dX12_cut_162 : decode cX12_cut 162 = .ok (.lcmp, 1) := dec_0 oX12_cut (of148 _) rfl
theorem dX12_cut_163 : decode cX12_cut 163 = .ok (.ifCond .ne 10, 3) := dec_s2 oX12_cut (of154 _) 0 10 rfl (sg16p rfl) rfl
theorem dX12_cut_166 : decode cX12_cut 166 = .ok (.bipush 20, 2) := dec_s1 oX12_cut (of16 _) 20 rfl (sg8p rfl) rfl
theorem dX12_cut_168 : decode cX12_cut 168 = .ok (.iload 7, 2) := dec_1 oX12_cut (of21 _) 7 rfl rfl
theorem dX12_cut_170 : decode cX12_cut 170 = .ok (.iadd, 1) := dec_0 oX12_cut (of96 _) rfl
theorem dX12_cut_171 : decode cX12_cut 171 = .ok (.istore 6, 2) := dec_1 oX12_cut (of54 _) 6 rfl rfl
theorem dX12_cut_173 : decode cX12_cut 173 = .ok (.iinc 7 1, 3) := dec_ii oX12_cut (of132 _) 7 1 rfl (sg8p rfl) rfl
theorem dX12_cut_176 : decode cX12_cut 176 = .ok (.goto (-30), 3) := dec_s2 oX12_cut (of167 _) 255 226 rfl (sg16n (k := 30) rfl) rfl
theorem dX12_cut_179 : decode cX12_cut 179 = .ok (.aload_n 0, 1) := dec_0 oX12_cut (of42 _) rfl
theorem dX12_cut_180 : decode cX12_cut 180 = .ok (.iload 6, 2) := dec_1 oX12_cut (of21 _) 6 rfl rfl
theorem dX12_cut_182 : decode cX12_cut 182 = .ok (.iload_n 1, 1) := dec_0 oX12_cut (of27 _) rfl
theorem dX12_cut_183 : decode cX12_cut 183 = .ok (.iconst 0, 1) := dec_0 oX12_cut (of3 _) rfl
theorem dX12_cut_184 : decode cX12_cut 184 = .ok (.lload 4, 2) := dec_1 oX12_cut (of22 _) 4 rfl rfl
theorem dX12_cut_186 : decode cX12_cut 186 = .ok (.invokevirtual 146, 3) := dec_2 oX12_cut (of182 _) 0 146 rfl rfl
theorem dX12_cut_189 : decode cX12_cut 189 = .ok (.iload_n 1, 1) := dec_0 oX12_cut (of27 _) rfl
theorem dX12_cut_190 : decode cX12_cut 190 = .ok (.iload_n 3, 1) := dec_0 oX12_cut (of29 _) rfl
theorem dX12_cut_191 : decode cX12_cut 191 = .ok (.iadd, 1) := dec_0 oX12_cut (of96 _) rfl
theorem dX12_cut_192 : decode cX12_cut 192 = .ok (.istore_n 1, 1) := dec_0 oX12_cut (of60 _) rfl
theorem dX12_cut_193 : decode cX12_cut 193 = .ok (.goto 98, 3) := dec_s2 oX12_cut (of167 _) 0 98 rfl (sg16p rfl) rfl
theorem dX12_cut_196 : decode cX12_cut 196 = .ok (.iload_n 2, 1) := dec_0 oX12_cut (of28 _) rfl
theorem dX12_cut_197 : decode cX12_cut 197 = .ok (.invokestatic 154, 3) := dec_2 oX12_cut (of184 _) 0 154 rfl rfl
theorem dX12_cut_200 : decode cX12_cut 200 = .ok (.ifCond .eq 75, 3) := dec_s2 oX12_cut (of153 _) 0 75 rfl (sg16p rfl) rfl
theorem dX12_cut_203 : decode cX12_cut 203 = .ok (.iconst 0, 1) := dec_0 oX12_cut (of3 _) rfl
theorem dX12_cut_204 : decode cX12_cut 204 = .ok (.istore_n 3, 1) := dec_0 oX12_cut (of62 _) rfl
theorem dX12_cut_205 : decode cX12_cut 205 = .ok (.iconst 0, 1) := dec_0 oX12_cut (of3 _) rfl
theorem dX12_cut_206 : decode cX12_cut 206 = .ok (.istore 4, 2) := dec_1 oX12_cut (of54 _) 4 rfl rfl
theorem dX12_cut_208 : decode cX12_cut 208 = .ok (.aload_n 0, 1) := dec_0 oX12_cut (of42 _) rfl
theorem dX12_cut_209 : decode cX12_cut 209 = .ok (.iload_n 1, 1) := dec_0 oX12_cut (of27 _) rfl
theorem dX12_cut_210 : decode cX12_cut 210 = .ok (.iload_n 3, 1) := dec_0 oX12_cut (of29 _) rfl
theorem dX12_cut_211 : decode cX12_cut 211 = .ok (.iadd, 1) := dec_0 oX12_cut (of96 _) rfl
theorem dX12_cut_212 : decode cX12_cut 212 = .ok (.invokevirtual 142, 3) := dec_2 oX12_cut (of182 _) 0 142 rfl rfl
theorem dX12_cut_215 : decode cX12_cut 215 = .ok (.invokestatic 154, 3) := dec_2 oX12_cut (of184 _) 0 154 rfl rfl
theorem dX12_cut_218 : decode cX12_cut 218 = .ok (.ifCond .eq 32, 3) := dec_s2 oX12_cut (of153 _) 0 32 rfl (sg16p rfl) rfl
theorem dX12_cut_221 : decode cX12_cut 221 = .ok (.iload_n 3, 1) := dec_0 oX12_cut (of29 _) rfl
theorem dX12_cut_222 : decode cX12_cut 222 = .ok (.iconst 4, 1) := dec_0 oX12_cut (of7 _) rfl
theorem dX12_cut_223 : decode cX12_cut 223 = .ok (.if_icmp .ge 21, 3) := dec_s2 oX12_cut (of162 _) 0 21 rfl (sg16p rfl) rfl
theorem dX12_cut_226 : decode cX12_cut 226 = .ok (.bipush 10, 2) := dec_s1 oX12_cut (of16 _) 10 rfl (sg8p rfl) rfl
theorem dX12_cut_228 : decode cX12_cut 228 = .ok (.iload 4, 2) := dec_1 oX12_cut (of21 _) 4 rfl rfl
theorem dX12_cut_230 : decode cX12_cut 230 = .ok (.imul, 1) := dec_0 oX12_cut (of104 _) rfl
theorem dX12_cut_231 : decode cX12_cut 231 = .ok (.aload_n 0, 1) := dec_0 oX12_cut (of42 _) rfl
theorem dX12_cut_232 : decode cX12_cut 232 = .ok (.iload_n 1, 1) := dec_0 oX12_cut (of27 _) rfl
theorem dX12_cut_233 : decode cX12_cut 233 = .ok (.iload_n 3, 1) := dec_0 oX12_cut (of29 _) rfl
theorem dX12_cut_234 : decode cX12_cut 234 = .ok (.iadd, 1) := dec_0 oX12_cut (of96 _) rfl
theorem dX12_cut_235 : decode cX12_cut 235 = .ok (.invokevirtual 142, 3) := dec_2 oX12_cut (of182 _) 0 142 rfl rfl
theorem dX12_cut_238 : decode cX12_cut 238 = .ok (.iadd, 1) := dec_0 oX12_cut (of96 _) rfl
theorem dX12_cut_239 : decode cX12_cut 239 = .ok (.bipush 48, 2) := dec_s1 oX12_cut (of16 _) 48 rfl (sg8p rfl) rfl
theorem dX12_cut_241 : decode cX12_cut 241 = .ok (.isub, 1) := dec_0 oX12_cut (of100 _) rfl
theorem dX12_cut_242 : decode cX12_cut 242 = .ok (.istore 4, 2) := dec_1 oX12_cut (of54 _) 4 rfl rfl
theorem dX12_cut_244 : decode cX12_cut 244 = .ok (.iinc 3 1, 3) := dec_ii oX12_cut (of132 _) 3 1 rfl (sg8p rfl) rfl
theorem dX12_cut_247 : decode cX12_cut 247 = .ok (.goto (-39), 3) := dec_s2 oX12_cut (of167 _) 255 217 rfl (sg16n (k := 39) rfl) rfl
theorem dX12_cut_250 : decode cX12_cut 250 = .ok (.aload_n 0, 1) := dec_0 oX12_cut (of42 _) rfl
theorem dX12_cut_251 : decode cX12_cut 251 = .ok (.iload_n 3, 1) := dec_0 oX12_cut (of29 _) rfl
theorem dX12_cut_252 : decode cX12_cut 252 = .ok (.iconst 4, 1) := dec_0 oX12_cut (of7 _) rfl
theorem dX12_cut_253 : decode cX12_cut 253 = .ok (.if_icmp .le 7, 3) := dec_s2 oX12_cut (of164 _) 0 7 rfl (sg16p rfl) rfl
theorem dX12_cut_256 : decode cX12_cut 256 = .ok (.iconst 3, 1) := dec_0 oX12_cut (of6 _) rfl
theorem dX12_cut_257 : decode cX12_cut 257 = .ok (.goto 4, 3) := dec_s2 oX12_cut (of167 _) 0 4 rfl (sg16p rfl) rfl
theorem dX12_cut_260 : decode cX12_cut 260 = .ok (.iconst 2, 1) := dec_0 oX12_cut (of5 _) rfl
theorem dX12_cut_261 : decode cX12_cut 261 = .ok (.iload_n 1, 1) := dec_0 oX12_cut (of27 _) rfl
theorem dX12_cut_262 : decode cX12_cut 262 = .ok (.iload 4, 2) := dec_1 oX12_cut (of21 _) 4 rfl rfl
theorem dX12_cut_264 : decode cX12_cut 264 = .ok (.lconst 0, 1) := dec_0 oX12_cut (of9 _) rfl
theorem dX12_cut_265 : decode cX12_cut 265 = .ok (.invokevirtual 146, 3) := dec_2 oX12_cut (of182 _) 0 146 rfl rfl
theorem dX12_cut_268 : decode cX12_cut 268 = .ok (.iload_n 1, 1) := dec_0 oX12_cut (of27 _) rfl
theorem dX12_cut_269 : decode cX12_cut 269 = .ok (.iload_n 3, 1) := dec_0 oX12_cut (of29 _) rfl
theorem dX12_cut_270 : decode cX12_cut 270 = .ok (.iadd, 1) := dec_0 oX12_cut (of96 _) rfl
theorem dX12_cut_271 : decode cX12_cut 271 = .ok (.istore_n 1, 1) := dec_0 oX12_cut (of60 _) rfl
theorem dX12_cut_272 : decode cX12_cut 272 = .ok (.goto 19, 3) := dec_s2 oX12_cut (of167 _) 0 19 rfl (sg16p rfl) rfl
theorem dX12_cut_275 : decode cX12_cut 275 = .ok (.iload_n 1, 1) := dec_0 oX12_cut (of27 _) rfl
theorem dX12_cut_276 : decode cX12_cut 276 = .ok (.aload_n 0, 1) := dec_0 oX12_cut (of42 _) rfl
theorem dX12_cut_277 : decode cX12_cut 277 = .ok (.iload_n 1, 1) := dec_0 oX12_cut (of27 _) rfl
theorem dX12_cut_278 : decode cX12_cut 278 = .ok (.iload_n 2, 1) := dec_0 oX12_cut (of28 _) rfl
theorem dX12_cut_279 : decode cX12_cut 279 = .ok (.aload_n 0, 1) := dec_0 oX12_cut (of42 _) rfl
theorem dX12_cut_280 : decode cX12_cut 280 = .ok (.iload_n 1, 1) := dec_0 oX12_cut (of27 _) rfl
theorem dX12_cut_281 : decode cX12_cut 281 = .ok (.iconst 1, 1) := dec_0 oX12_cut (of4 _) rfl
theorem dX12_cut_282 : decode cX12_cut 282 = .ok (.iadd, 1) := dec_0 oX12_cut (of96 _) rfl
theorem dX12_cut_283 : decode cX12_cut 283 = .ok (.invokevirtual 142, 3) := dec_2 oX12_cut (of182 _) 0 142 rfl rfl
theorem dX12_cut_286 : decode cX12_cut 286 = .ok (.invokevirtual 157, 3) := dec_2 oX12_cut (of182 _) 0 157 rfl rfl
theorem dX12_cut_289 : decode cX12_cut 289 = .ok (.iadd, 1) := dec_0 oX12_cut (of96 _) rfl
theorem dX12_cut_290 : decode cX12_cut 290 = .ok (.istore_n 1, 1) := dec_0 oX12_cut (of60 _) rfl
theorem dX12_cut_291 : decode cX12_cut 291 = .ok (.goto (-284), 3) := dec_s2 oX12_cut (of167 _) 254 228 rfl (sg16n (k := 284) rfl) rfl
theorem dX12_cut_294 : decode cX12_cut 294 = .ok (.return_, 1) := dec_0 oX12_cut (of177 _) rfl
theorem dX12_sign_0 : decode cX12_sign 0 = .ok (.aload_n 0, 1) := dec_0 oX12_sign (of42 _) rfl
theorem dX12_sign_1 : decode cX12_sign 1 = .ok (.iload_n 2, 1) := dec_0 oX12_sign (of28 _) rfl
theorem dX12_sign_2 : decode cX12_sign 2 = .ok (.bipush 59, 2) := dec_s1 oX12_sign (of16 _) 59 rfl (sg8p rfl) rfl
theorem dX12_sign_4 : decode cX12_sign 4 = .ok (.if_icmp .ne 7, 3) := dec_s2 oX12_sign (of160 _) 0 7 rfl (sg16p rfl) rfl
theorem dX12_sign_7 : decode cX12_sign 7 = .ok (.iconst 4, 1) := dec_0 oX12_sign (of7 _) rfl
theorem dX12_sign_8 : decode cX12_sign 8 = .ok (.goto 15, 3) := dec_s2 oX12_sign (of167 _) 0 15 rfl (sg16p rfl) rfl
theorem dX12_sign_11 : decode cX12_sign 11 = .ok (.iload_n 2, 1) := dec_0 oX12_sign (of28 _) rfl
theorem dX12_sign_12 : decode cX12_sign 12 = .ok (.bipush 45, 2) := dec_s1 oX12_sign (of16 _) 45 rfl (sg8p rfl) rfl
theorem dX12_sign_14 : decode cX12_sign 14 = .ok (.if_icmp .ne 8, 3) := dec_s2 oX12_sign (of160 _) 0 8 rfl (sg16p rfl) rfl
theorem dX12_sign_17 : decode cX12_sign 17 = .ok (.bipush 9, 2) := dec_s1 oX12_sign (of16 _) 9 rfl (sg8p rfl) rfl
theorem dX12_sign_19 : decode cX12_sign 19 = .ok (.goto 4, 3) := dec_s2 oX12_sign (of167 _) 0 4 rfl (sg16p rfl) rfl
theorem dX12_sign_22 : decode cX12_sign 22 = .ok (.iconst 3, 1) := dec_0 oX12_sign (of6 _) rfl
theorem dX12_sign_23 : decode cX12_sign 23 = .ok (.iload_n 1, 1) := dec_0 oX12_sign (of27 _) rfl
theorem dX12_sign_24 : decode cX12_sign 24 = .ok (.iconst 0, 1) := dec_0 oX12_sign (of3 _) rfl
theorem dX12_sign_25 : decode cX12_sign 25 = .ok (.lconst 0, 1) := dec_0 oX12_sign (of9 _) rfl
theorem dX12_sign_26 : decode cX12_sign 26 = .ok (.invokevirtual 146, 3) := dec_2 oX12_sign (of182 _) 0 146 rfl rfl
theorem dX12_sign_29 : decode cX12_sign 29 = .ok (.iconst 1, 1) := dec_0 oX12_sign (of4 _) rfl
theorem dX12_sign_30 : decode cX12_sign 30 = .ok (.ireturn, 1) := dec_0 oX12_sign (of172 _) rfl
theorem dX12_is_24 : decode cX12_is 24 = .ok (.iconst 0, 1) := dec_0 oX12_is (of3 _) rfl
theorem dX12_fail_0 : decode cX12_fail 0 = .ok (.aload_n 0, 1) := dec_0 oX12_fail (of42 _) rfl
theorem dX12_fail_1 : decode cX12_fail 1 = .ok (.getfield 161, 3) := dec_2 oX12_fail (of180 _) 0 161 rfl rfl
theorem dX12_fail_4 : decode cX12_fail 4 = .ok (.ifCond .le 4, 3) := dec_s2 oX12_fail (of158 _) 0 4 rfl (sg16p rfl) rfl
theorem dX12_fail_7 : decode cX12_fail 7 = .ok (.return_, 1) := dec_0 oX12_fail (of177 _) rfl
theorem dX12_fail_8 : decode cX12_fail 8 = .ok (.aload_n 0, 1) := dec_0 oX12_fail (of42 _) rfl
theorem dX12_fail_9 : decode cX12_fail 9 = .ok (.iload_n 1, 1) := dec_0 oX12_fail (of27 _) rfl
theorem dX12_fail_10 : decode cX12_fail 10 = .ok (.putfield 161, 3) := dec_2 oX12_fail (of181 _) 0 161 rfl rfl
theorem dX12_fail_13 : decode cX12_fail 13 = .ok (.aload_n 0, 1) := dec_0 oX12_fail (of42 _) rfl
theorem dX12_fail_14 : decode cX12_fail 14 = .ok (.aload_n 0, 1) := dec_0 oX12_fail (of42 _) rfl
theorem dX12_fail_15 : decode cX12_fail 15 = .ok (.getfield 24, 3) := dec_2 oX12_fail (of180 _) 0 24 rfl rfl
theorem dX12_fail_18 : decode cX12_fail 18 = .ok (.aload_n 0, 1) := dec_0 oX12_fail (of42 _) rfl
theorem dX12_fail_19 : decode cX12_fail 19 = .ok (.getfield 164, 3) := dec_2 oX12_fail (of180 _) 0 164 rfl rfl
theorem dX12_fail_22 : decode cX12_fail 22 = .ok (.iaload, 1) := dec_0 oX12_fail (of46 _) rfl
theorem dX12_fail_23 : decode cX12_fail 23 = .ok (.putfield 167, 3) := dec_2 oX12_fail (of181 _) 0 167 rfl rfl
theorem dX12_fail_26 : decode cX12_fail 26 = .ok (.aload_n 0, 1) := dec_0 oX12_fail (of42 _) rfl
theorem dX12_fail_27 : decode cX12_fail 27 = .ok (.aload_n 0, 1) := dec_0 oX12_fail (of42 _) rfl
theorem dX12_fail_28 : decode cX12_fail 28 = .ok (.getfield 170, 3) := dec_2 oX12_fail (of180 _) 0 170 rfl rfl
theorem dX12_fail_31 : decode cX12_fail 31 = .ok (.putfield 173, 3) := dec_2 oX12_fail (of181 _) 0 173 rfl rfl
theorem dX12_fail_34 : decode cX12_fail 34 = .ok (.return_, 1) := dec_0 oX12_fail (of177 _) rfl
theorem dX12_wrong_0 : decode cX12_wrong 0 = .ok (.aload_n 0, 1) := dec_0 oX12_wrong (of42 _) rfl
theorem dX12_wrong_1 : decode cX12_wrong 1 = .ok (.getfield 24, 3) := dec_2 oX12_wrong (of180 _) 0 24 rfl rfl
theorem dX12_wrong_4 : decode cX12_wrong 4 = .ok (.iload_n 2, 1) := dec_0 oX12_wrong (of28 _) rfl
theorem dX12_wrong_5 : decode cX12_wrong 5 = .ok (.iaload, 1) := dec_0 oX12_wrong (of46 _) rfl
theorem dX12_wrong_6 : decode cX12_wrong 6 = .ok (.istore_n 3, 1) := dec_0 oX12_wrong (of62 _) rfl
theorem dX12_wrong_7 : decode cX12_wrong 7 = .ok (.aload_n 0, 1) := dec_0 oX12_wrong (of42 _) rfl
theorem dX12_wrong_8 : decode cX12_wrong 8 = .ok (.getfield 161, 3) := dec_2 oX12_wrong (of180 _) 0 161 rfl rfl
theorem dX12_wrong_11 : decode cX12_wrong 11 = .ok (.ifCond .gt 34, 3) := dec_s2 oX12_wrong (of157 _) 0 34 rfl (sg16p rfl) rfl
theorem dX12_wrong_14 : decode cX12_wrong 14 = .ok (.aload_n 0, 1) := dec_0 oX12_wrong (of42 _) rfl
theorem dX12_wrong_15 : decode cX12_wrong 15 = .ok (.getfield 176, 3) := dec_2 oX12_wrong (of180 _) 0 176 rfl rfl
theorem dX12_wrong_18 : decode cX12_wrong 18 = .ok (.ifCond .eq 28, 3) := dec_s2 oX12_wrong (of153 _) 0 28 rfl (sg16p rfl) rfl
theorem dX12_wrong_21 : decode cX12_wrong 21 = .ok (.iload_n 3, 1) := dec_0 oX12_wrong (of29 _) rfl
theorem dX12_wrong_22 : decode cX12_wrong 22 = .ok (.aload_n 0, 1) := dec_0 oX12_wrong (of42 _) rfl
theorem dX12_wrong_23 : decode cX12_wrong 23 = .ok (.getfield 179, 3) := dec_2 oX12_wrong (of180 _) 0 179 rfl rfl
theorem dX12_wrong_26 : decode cX12_wrong 26 = .ok (.if_icmp .gt 19, 3) := dec_s2 oX12_wrong (of163 _) 0 19 rfl (sg16p rfl) rfl
theorem dX12_wrong_29 : decode cX12_wrong 29 = .ok (.iload_n 3, 1) := dec_0 oX12_wrong (of29 _) rfl
theorem dX12_wrong_30 : decode cX12_wrong 30 = .ok (.aload_n 0, 1) := dec_0 oX12_wrong (of42 _) rfl
theorem dX12_wrong_31 : decode cX12_wrong 31 = .ok (.getfield 179, 3) := dec_2 oX12_wrong (of180 _) 0 179 rfl rfl
theorem dX12_wrong_34 : decode cX12_wrong 34 = .ok (.if_icmp .ne 12, 3) := dec_s2 oX12_wrong (of160 _) 0 12 rfl (sg16p rfl) rfl
theorem dX12_wrong_37 : decode cX12_wrong 37 = .ok (.iload_n 1, 1) := dec_0 oX12_wrong (of27 _) rfl
theorem dX12_wrong_38 : decode cX12_wrong 38 = .ok (.aload_n 0, 1) := dec_0 oX12_wrong (of42 _) rfl
theorem dX12_wrong_39 : decode cX12_wrong 39 = .ok (.getfield 176, 3) := dec_2 oX12_wrong (of180 _) 0 176 rfl rfl
theorem dX12_wrong_42 : decode cX12_wrong 42 = .ok (.if_icmp .lt 4, 3) := dec_s2 oX12_wrong (of161 _) 0 4 rfl (sg16p rfl) rfl
theorem dX12_wrong_45 : decode cX12_wrong 45 = .ok (.return_, 1) := dec_0 oX12_wrong (of177 _) rfl
theorem dX12_wrong_46 : decode cX12_wrong 46 = .ok (.aload_n 0, 1) := dec_0 oX12_wrong (of42 _) rfl
theorem dX12_wrong_47 : decode cX12_wrong 47 = .ok (.iload_n 1, 1) := dec_0 oX12_wrong (of27 _) rfl
theorem dX12_wrong_48 : decode cX12_wrong 48 = .ok (.putfield 176, 3) := dec_2 oX12_wrong (of181 _) 0 176 rfl rfl
theorem dX12_wrong_51 : decode cX12_wrong 51 = .ok (.aload_n 0, 1) := dec_0 oX12_wrong (of42 _) rfl
theorem dX12_wrong_52 : decode cX12_wrong 52 = .ok (.iload_n 3, 1) := dec_0 oX12_wrong (of29 _) rfl
theorem dX12_wrong_53 : decode cX12_wrong 53 = .ok (.putfield 179, 3) := dec_2 oX12_wrong (of181 _) 0 179 rfl rfl
theorem dX12_wrong_56 : decode cX12_wrong 56 = .ok (.aload_n 0, 1) := dec_0 oX12_wrong (of42 _) rfl
theorem dX12_wrong_57 : decode cX12_wrong 57 = .ok (.aload_n 0, 1) := dec_0 oX12_wrong (of42 _) rfl
theorem dX12_wrong_58 : decode cX12_wrong 58 = .ok (.getfield 170, 3) := dec_2 oX12_wrong (of180 _) 0 170 rfl rfl
theorem dX12_wrong_61 : decode cX12_wrong 61 = .ok (.putfield 182, 3) := dec_2 oX12_wrong (of181 _) 0 182 rfl rfl
theorem dX12_wrong_64 : decode cX12_wrong 64 = .ok (.return_, 1) := dec_0 oX12_wrong (of177 _) rfl
theorem dX12_goesOn_0 : decode cX12_goesOn 0 = .ok (.aload_n 0, 1) := dec_0 oX12_goesOn (of42 _) rfl
theorem dX12_goesOn_1 : decode cX12_goesOn 1 = .ok (.getfield 164, 3) := dec_2 oX12_goesOn (of180 _) 0 164 rfl rfl
theorem dX12_goesOn_4 : decode cX12_goesOn 4 = .ok (.sipush 400, 3) := dec_s2 oX12_goesOn (of17 _) 1 144 rfl (sg16p rfl) rfl
theorem dX12_goesOn_7 : decode cX12_goesOn 7 = .ok (.if_icmp .ne 11, 3) := dec_s2 oX12_goesOn (of160 _) 0 11 rfl (sg16p rfl) rfl
theorem dX12_goesOn_10 : decode cX12_goesOn 10 = .ok (.aload_n 0, 1) := dec_0 oX12_goesOn (of42 _) rfl
theorem dX12_goesOn_11 : decode cX12_goesOn 11 = .ok (.iconst 2, 1) := dec_0 oX12_goesOn (of5 _) rfl
theorem dX12_goesOn_12 : decode cX12_goesOn 12 = .ok (.invokevirtual 185, 3) := dec_2 oX12_goesOn (of182 _) 0 185 rfl rfl
theorem dX12_goesOn_15 : decode cX12_goesOn 15 = .ok (.goto 13, 3) := dec_s2 oX12_goesOn (of167 _) 0 13 rfl (sg16p rfl) rfl
theorem dX12_goesOn_18 : decode cX12_goesOn 18 = .ok (.aload_n 0, 1) := dec_0 oX12_goesOn (of42 _) rfl
theorem dX12_goesOn_19 : decode cX12_goesOn 19 = .ok (.dup, 1) := dec_0 oX12_goesOn (of89 _) rfl
theorem dX12_goesOn_20 : decode cX12_goesOn 20 = .ok (.getfield 164, 3) := dec_2 oX12_goesOn (of180 _) 0 164 rfl rfl
theorem dX12_goesOn_23 : decode cX12_goesOn 23 = .ok (.iconst 1, 1) := dec_0 oX12_goesOn (of4 _) rfl
theorem dX12_goesOn_24 : decode cX12_goesOn 24 = .ok (.iadd, 1) := dec_0 oX12_goesOn (of96 _) rfl
theorem dX12_goesOn_25 : decode cX12_goesOn 25 = .ok (.putfield 164, 3) := dec_2 oX12_goesOn (of181 _) 0 164 rfl rfl
theorem dX12_goesOn_28 : decode cX12_goesOn 28 = .ok (.return_, 1) := dec_0 oX12_goesOn (of177 _) rfl
theorem dX12_must_0 : decode cX12_must 0 = .ok (.aload_n 0, 1) := dec_0 oX12_must (of42 _) rfl
theorem dX12_must_1 : decode cX12_must 1 = .ok (.iload_n 1, 1) := dec_0 oX12_must (of27 _) rfl
theorem dX12_must_2 : decode cX12_must 2 = .ok (.invokevirtual 188, 3) := dec_2 oX12_must (of182 _) 0 188 rfl rfl
theorem dX12_must_5 : decode cX12_must 5 = .ok (.ifCond .eq 10, 3) := dec_s2 oX12_must (of153 _) 0 10 rfl (sg16p rfl) rfl
theorem dX12_must_8 : decode cX12_must 8 = .ok (.aload_n 0, 1) := dec_0 oX12_must (of42 _) rfl
theorem dX12_must_9 : decode cX12_must 9 = .ok (.invokevirtual 191, 3) := dec_2 oX12_must (of182 _) 0 191 rfl rfl
theorem dX12_must_12 : decode cX12_must 12 = .ok (.goto 8, 3) := dec_s2 oX12_must (of167 _) 0 8 rfl (sg16p rfl) rfl
theorem dX12_must_15 : decode cX12_must 15 = .ok (.aload_n 0, 1) := dec_0 oX12_must (of42 _) rfl
theorem dX12_must_16 : decode cX12_must 16 = .ok (.iconst 1, 1) := dec_0 oX12_must (of4 _) rfl
theorem dX12_must_17 : decode cX12_must 17 = .ok (.invokevirtual 185, 3) := dec_2 oX12_must (of182 _) 0 185 rfl rfl
theorem dX12_must_20 : decode cX12_must 20 = .ok (.return_, 1) := dec_0 oX12_must (of177 _) rfl
theorem dX12_read_18 : decode cX12_read 18 = .ok (.aload_n 0, 1) := dec_0 oX12_read (of42 _) rfl
theorem dX12_read_19 : decode cX12_read 19 = .ok (.getfield 17, 3) := dec_2 oX12_read (of180 _) 0 17 rfl rfl
theorem dX12_read_22 : decode cX12_read 22 = .ok (.iload_n 1, 1) := dec_0 oX12_read (of27 _) rfl
theorem dX12_read_23 : decode cX12_read 23 = .ok (.aload_n 0, 1) := dec_0 oX12_read (of42 _) rfl
theorem dX12_read_24 : decode cX12_read 24 = .ok (.getfield 13, 3) := dec_2 oX12_read (of180 _) 0 13 rfl rfl
theorem dX12_read_27 : decode cX12_read 27 = .ok (.iload_n 1, 1) := dec_0 oX12_read (of27 _) rfl
theorem dX12_read_28 : decode cX12_read 28 = .ok (.baload, 1) := dec_0 oX12_read (of51 _) rfl
theorem dX12_read_29 : decode cX12_read 29 = .ok (.bastore, 1) := dec_0 oX12_read (of84 _) rfl
theorem dX12_read_30 : decode cX12_read 30 = .ok (.iinc 1 1, 3) := dec_ii oX12_read (of132 _) 1 1 rfl (sg8p rfl) rfl
theorem dX12_read_33 : decode cX12_read 33 = .ok (.goto (-23), 3) := dec_s2 oX12_read (of167 _) 255 233 rfl (sg16n (k := 23) rfl) rfl
theorem dX12_read_104 : decode cX12_read 104 = .ok (.aload_n 0, 1) := dec_0 oX12_read (of42 _) rfl
theorem dX12_read_105 : decode cX12_read 105 = .ok (.invokevirtual 206, 3) := dec_2 oX12_read (of182 _) 0 206 rfl rfl
theorem dX12_read_108 : decode cX12_read 108 = .ok (.goto (-19), 3) := dec_s2 oX12_read (of167 _) 255 237 rfl (sg16n (k := 19) rfl) rfl
theorem dX12_read_119 : decode cX12_read 119 = .ok (.aload_n 0, 1) := dec_0 oX12_read (of42 _) rfl
theorem dX12_read_120 : decode cX12_read 120 = .ok (.getfield 167, 3) := dec_2 oX12_read (of180 _) 0 167 rfl rfl
theorem dX12_read_123 : decode cX12_read 123 = .ok (.goto 18, 3) := dec_s2 oX12_read (of167 _) 0 18 rfl (sg16p rfl) rfl
theorem dX12_read_133 : decode cX12_read 133 = .ok (.aload_n 0, 1) := dec_0 oX12_read (of42 _) rfl
theorem dX12_read_134 : decode cX12_read 134 = .ok (.getfield 179, 3) := dec_2 oX12_read (of180 _) 0 179 rfl rfl
theorem dX12_read_137 : decode cX12_read 137 = .ok (.goto 4, 3) := dec_s2 oX12_read (of167 _) 0 4 rfl (sg16p rfl) rfl
theorem dX12_read_152 : decode cX12_read 152 = .ok (.aload_n 0, 1) := dec_0 oX12_read (of42 _) rfl
theorem dX12_read_153 : decode cX12_read 153 = .ok (.getfield 173, 3) := dec_2 oX12_read (of180 _) 0 173 rfl rfl
theorem dX12_read_156 : decode cX12_read 156 = .ok (.goto 18, 3) := dec_s2 oX12_read (of167 _) 0 18 rfl (sg16p rfl) rfl
theorem dX12_read_166 : decode cX12_read 166 = .ok (.aload_n 0, 1) := dec_0 oX12_read (of42 _) rfl
theorem dX12_read_167 : decode cX12_read 167 = .ok (.getfield 182, 3) := dec_2 oX12_read (of180 _) 0 182 rfl rfl
theorem dX12_read_170 : decode cX12_read 170 = .ok (.goto 4, 3) := dec_s2 oX12_read (of167 _) 0 4 rfl (sg16p rfl) rfl
theorem dX12_read_184 : decode cX12_read 184 = .ok (.aload_n 0, 1) := dec_0 oX12_read (of42 _) rfl
theorem dX12_read_185 : decode cX12_read 185 = .ok (.getfield 161, 3) := dec_2 oX12_read (of180 _) 0 161 rfl rfl
theorem dX12_read_188 : decode cX12_read 188 = .ok (.ireturn, 1) := dec_0 oX12_read (of172 _) rfl
theorem dX12_read_196 : decode cX12_read 196 = .ok (.aload_n 0, 1) := dec_0 oX12_read (of42 _) rfl
theorem dX12_read_197 : decode cX12_read 197 = .ok (.getfield 176, 3) := dec_2 oX12_read (of180 _) 0 176 rfl rfl
theorem dX12_read_200 : decode cX12_read 200 = .ok (.ireturn, 1) := dec_0 oX12_read (of172 _) rfl
theorem dX12_toldInt_0 : decode cX12_toldInt 0 = .ok (.aload_n 0, 1) := dec_0 oX12_toldInt (of42 _) rfl
theorem dX12_toldInt_1 : decode cX12_toldInt 1 = .ok (.invokevirtual 191, 3) := dec_2 oX12_toldInt (of182 _) 0 191 rfl rfl
theorem dX12_toldInt_4 : decode cX12_toldInt 4 = .ok (.aload_n 0, 1) := dec_0 oX12_toldInt (of42 _) rfl
theorem dX12_toldInt_5 : decode cX12_toldInt 5 = .ok (.iload_n 1, 1) := dec_0 oX12_toldInt (of27 _) rfl
theorem dX12_toldInt_6 : decode cX12_toldInt 6 = .ok (.iload_n 2, 1) := dec_0 oX12_toldInt (of28 _) rfl
theorem dX12_toldInt_7 : decode cX12_toldInt 7 = .ok (.invokevirtual 212, 3) := dec_2 oX12_toldInt (of182 _) 0 212 rfl rfl
theorem dX12_toldInt_10 : decode cX12_toldInt 10 = .ok (.istore_n 3, 1) := dec_0 oX12_toldInt (of62 _) rfl
theorem dX12_toldInt_11 : decode cX12_toldInt 11 = .ok (.aload_n 0, 1) := dec_0 oX12_toldInt (of42 _) rfl
theorem dX12_toldInt_12 : decode cX12_toldInt 12 = .ok (.iconst 4, 1) := dec_0 oX12_toldInt (of7 _) rfl
theorem dX12_toldInt_13 : decode cX12_toldInt 13 = .ok (.invokevirtual 216, 3) := dec_2 oX12_toldInt (of182 _) 0 216 rfl rfl
theorem dX12_toldInt_16 : decode cX12_toldInt 16 = .ok (.iload_n 3, 1) := dec_0 oX12_toldInt (of29 _) rfl
theorem dX12_toldInt_17 : decode cX12_toldInt 17 = .ok (.ireturn, 1) := dec_0 oX12_toldInt (of172 _) rfl
theorem dX12_toldWord_0 : decode cX12_toldWord 0 = .ok (.aload_n 0, 1) := dec_0 oX12_toldWord (of42 _) rfl
theorem dX12_toldWord_1 : decode cX12_toldWord 1 = .ok (.invokevirtual 191, 3) := dec_2 oX12_toldWord (of182 _) 0 191 rfl rfl
theorem dX12_toldWord_4 : decode cX12_toldWord 4 = .ok (.aload_n 0, 1) := dec_0 oX12_toldWord (of42 _) rfl
theorem dX12_toldWord_5 : decode cX12_toldWord 5 = .ok (.getfield 161, 3) := dec_2 oX12_toldWord (of180 _) 0 161 rfl rfl
theorem dX12_toldWord_8 : decode cX12_toldWord 8 = .ok (.ifCond .le 7, 3) := dec_s2 oX12_toldWord (of158 _) 0 7 rfl (sg16p rfl) rfl
theorem dX12_toldWord_11 : decode cX12_toldWord 11 = .ok (.iconst (-1), 1) := dec_0 oX12_toldWord (of2 _) rfl
theorem dX12_toldWord_12 : decode cX12_toldWord 12 = .ok (.goto 14, 3) := dec_s2 oX12_toldWord (of167 _) 0 14 rfl (sg16p rfl) rfl
theorem dX12_toldWord_15 : decode cX12_toldWord 15 = .ok (.aload_n 0, 1) := dec_0 oX12_toldWord (of42 _) rfl
theorem dX12_toldWord_16 : decode cX12_toldWord 16 = .ok (.getfield 20, 3) := dec_2 oX12_toldWord (of180 _) 0 20 rfl rfl
theorem dX12_toldWord_19 : decode cX12_toldWord 19 = .ok (.aload_n 0, 1) := dec_0 oX12_toldWord (of42 _) rfl
theorem dX12_toldWord_20 : decode cX12_toldWord 20 = .ok (.getfield 164, 3) := dec_2 oX12_toldWord (of180 _) 0 164 rfl rfl
theorem dX12_toldWord_23 : decode cX12_toldWord 23 = .ok (.iaload, 1) := dec_0 oX12_toldWord (of46 _) rfl
theorem dX12_toldWord_24 : decode cX12_toldWord 24 = .ok (.iload_n 1, 1) := dec_0 oX12_toldWord (of27 _) rfl
theorem dX12_toldWord_25 : decode cX12_toldWord 25 = .ok (.isub, 1) := dec_0 oX12_toldWord (of100 _) rfl
theorem dX12_toldWord_26 : decode cX12_toldWord 26 = .ok (.istore_n 3, 1) := dec_0 oX12_toldWord (of62 _) rfl
theorem dX12_toldWord_27 : decode cX12_toldWord 27 = .ok (.iload_n 3, 1) := dec_0 oX12_toldWord (of29 _) rfl
theorem dX12_toldWord_28 : decode cX12_toldWord 28 = .ok (.ifCond .lt 8, 3) := dec_s2 oX12_toldWord (of155 _) 0 8 rfl (sg16p rfl) rfl
theorem dX12_toldWord_31 : decode cX12_toldWord 31 = .ok (.iload_n 3, 1) := dec_0 oX12_toldWord (of29 _) rfl
theorem dX12_toldWord_32 : decode cX12_toldWord 32 = .ok (.iload_n 2, 1) := dec_0 oX12_toldWord (of28 _) rfl
theorem dX12_toldWord_33 : decode cX12_toldWord 33 = .ok (.if_icmp .lt 8, 3) := dec_s2 oX12_toldWord (of161 _) 0 8 rfl (sg16p rfl) rfl
theorem dX12_toldWord_36 : decode cX12_toldWord 36 = .ok (.aload_n 0, 1) := dec_0 oX12_toldWord (of42 _) rfl
theorem dX12_toldWord_37 : decode cX12_toldWord 37 = .ok (.iconst 1, 1) := dec_0 oX12_toldWord (of4 _) rfl
theorem dX12_toldWord_38 : decode cX12_toldWord 38 = .ok (.invokevirtual 185, 3) := dec_2 oX12_toldWord (of182 _) 0 185 rfl rfl
theorem dX12_toldWord_41 : decode cX12_toldWord 41 = .ok (.aload_n 0, 1) := dec_0 oX12_toldWord (of42 _) rfl
theorem dX12_toldWord_42 : decode cX12_toldWord 42 = .ok (.getfield 161, 3) := dec_2 oX12_toldWord (of180 _) 0 161 rfl rfl
theorem dX12_toldWord_45 : decode cX12_toldWord 45 = .ok (.ifCond .ne 7, 3) := dec_s2 oX12_toldWord (of154 _) 0 7 rfl (sg16p rfl) rfl
theorem dX12_toldWord_48 : decode cX12_toldWord 48 = .ok (.aload_n 0, 1) := dec_0 oX12_toldWord (of42 _) rfl
theorem dX12_toldWord_49 : decode cX12_toldWord 49 = .ok (.invokevirtual 191, 3) := dec_2 oX12_toldWord (of182 _) 0 191 rfl rfl
theorem dX12_toldWord_52 : decode cX12_toldWord 52 = .ok (.aload_n 0, 1) := dec_0 oX12_toldWord (of42 _) rfl
theorem dX12_toldWord_53 : decode cX12_toldWord 53 = .ok (.iconst 4, 1) := dec_0 oX12_toldWord (of7 _) rfl
theorem dX12_toldWord_54 : decode cX12_toldWord 54 = .ok (.invokevirtual 216, 3) := dec_2 oX12_toldWord (of182 _) 0 216 rfl rfl
theorem dX12_toldWord_57 : decode cX12_toldWord 57 = .ok (.iload_n 3, 1) := dec_0 oX12_toldWord (of29 _) rfl
theorem dX12_toldWord_58 : decode cX12_toldWord 58 = .ok (.ireturn, 1) := dec_0 oX12_toldWord (of172 _) rfl
theorem dX12_tellOne_0 : decode cX12_tellOne 0 = .ok (.aload_n 0, 1) := dec_0 oX12_tellOne (of42 _) rfl
theorem dX12_tellOne_1 : decode cX12_tellOne 1 = .ok (.getfield 20, 3) := dec_2 oX12_tellOne (of180 _) 0 20 rfl rfl
theorem dX12_tellOne_4 : decode cX12_tellOne 4 = .ok (.aload_n 0, 1) := dec_0 oX12_tellOne (of42 _) rfl
theorem dX12_tellOne_5 : decode cX12_tellOne 5 = .ok (.getfield 164, 3) := dec_2 oX12_tellOne (of180 _) 0 164 rfl rfl
theorem dX12_tellOne_8 : decode cX12_tellOne 8 = .ok (.iaload, 1) := dec_0 oX12_tellOne (of46 _) rfl
theorem dX12_tellOne_9 : decode cX12_tellOne 9 = .ok (.tableswitch 176 20 25 #[39, 57, 100, 119, 138, 157], 39) := by decide +kernel
theorem dX12_tellOne_48 : decode cX12_tellOne 48 = .ok (.aload_n 0, 1) := dec_0 oX12_tellOne (of42 _) rfl
theorem dX12_tellOne_49 : decode cX12_tellOne 49 = .ok (.invokevirtual 191, 3) := dec_2 oX12_tellOne (of182 _) 0 191 rfl rfl
theorem dX12_tellOne_52 : decode cX12_tellOne 52 = .ok (.aload_n 0, 1) := dec_0 oX12_tellOne (of42 _) rfl
theorem dX12_tellOne_53 : decode cX12_tellOne 53 = .ok (.getfield 161, 3) := dec_2 oX12_tellOne (of180 _) 0 161 rfl rfl
theorem dX12_tellOne_56 : decode cX12_tellOne 56 = .ok (.ifCond .ne 134, 3) := dec_s2 oX12_tellOne (of154 _) 0 134 rfl (sg16p rfl) rfl
theorem dX12_tellOne_59 : decode cX12_tellOne 59 = .ok (.aload_n 0, 1) := dec_0 oX12_tellOne (of42 _) rfl
theorem dX12_tellOne_60 : decode cX12_tellOne 60 = .ok (.invokevirtual 219, 3) := dec_2 oX12_tellOne (of182 _) 0 219 rfl rfl
theorem dX12_tellOne_63 : decode cX12_tellOne 63 = .ok (.goto 127, 3) := dec_s2 oX12_tellOne (of167 _) 0 127 rfl (sg16p rfl) rfl
theorem dX12_tellOne_66 : decode cX12_tellOne 66 = .ok (.aload_n 0, 1) := dec_0 oX12_tellOne (of42 _) rfl
theorem dX12_tellOne_67 : decode cX12_tellOne 67 = .ok (.getfield 49, 3) := dec_2 oX12_tellOne (of180 _) 0 49 rfl rfl
theorem dX12_tellOne_70 : decode cX12_tellOne 70 = .ok (.aload_n 0, 1) := dec_0 oX12_tellOne (of42 _) rfl
theorem dX12_tellOne_71 : decode cX12_tellOne 71 = .ok (.getfield 200, 3) := dec_2 oX12_tellOne (of180 _) 0 200 rfl rfl
theorem dX12_tellOne_74 : decode cX12_tellOne 74 = .ok (.iaload, 1) := dec_0 oX12_tellOne (of46 _) rfl
theorem dX12_tellOne_75 : decode cX12_tellOne 75 = .ok (.iconst 5, 1) := dec_0 oX12_tellOne (of8 _) rfl
theorem dX12_tellOne_76 : decode cX12_tellOne 76 = .ok (.if_icmp .ne 8, 3) := dec_s2 oX12_tellOne (of160 _) 0 8 rfl (sg16p rfl) rfl
theorem dX12_tellOne_79 : decode cX12_tellOne 79 = .ok (.aload_n 0, 1) := dec_0 oX12_tellOne (of42 _) rfl
theorem dX12_tellOne_80 : decode cX12_tellOne 80 = .ok (.iconst 2, 1) := dec_0 oX12_tellOne (of5 _) rfl
theorem dX12_tellOne_81 : decode cX12_tellOne 81 = .ok (.invokevirtual 185, 3) := dec_2 oX12_tellOne (of182 _) 0 185 rfl rfl
theorem dX12_tellOne_84 : decode cX12_tellOne 84 = .ok (.aload_n 0, 1) := dec_0 oX12_tellOne (of42 _) rfl
theorem dX12_tellOne_85 : decode cX12_tellOne 85 = .ok (.getfield 161, 3) := dec_2 oX12_tellOne (of180 _) 0 161 rfl rfl
theorem dX12_tellOne_88 : decode cX12_tellOne 88 = .ok (.ifCond .ne 7, 3) := dec_s2 oX12_tellOne (of154 _) 0 7 rfl (sg16p rfl) rfl
theorem dX12_tellOne_91 : decode cX12_tellOne 91 = .ok (.aload_n 0, 1) := dec_0 oX12_tellOne (of42 _) rfl
theorem dX12_tellOne_92 : decode cX12_tellOne 92 = .ok (.invokevirtual 191, 3) := dec_2 oX12_tellOne (of182 _) 0 191 rfl rfl
theorem dX12_tellOne_95 : decode cX12_tellOne 95 = .ok (.aload_n 0, 1) := dec_0 oX12_tellOne (of42 _) rfl
theorem dX12_tellOne_96 : decode cX12_tellOne 96 = .ok (.getfield 161, 3) := dec_2 oX12_tellOne (of180 _) 0 161 rfl rfl
theorem dX12_tellOne_99 : decode cX12_tellOne 99 = .ok (.ifCond .ne 91, 3) := dec_s2 oX12_tellOne (of154 _) 0 91 rfl (sg16p rfl) rfl
theorem dX12_tellOne_102 : decode cX12_tellOne 102 = .ok (.aload_n 0, 1) := dec_0 oX12_tellOne (of42 _) rfl
theorem dX12_tellOne_103 : decode cX12_tellOne 103 = .ok (.invokevirtual 222, 3) := dec_2 oX12_tellOne (of182 _) 0 222 rfl rfl
theorem dX12_tellOne_106 : decode cX12_tellOne 106 = .ok (.goto 84, 3) := dec_s2 oX12_tellOne (of167 _) 0 84 rfl (sg16p rfl) rfl
theorem dX12_tellOne_109 : decode cX12_tellOne 109 = .ok (.aload_n 0, 1) := dec_0 oX12_tellOne (of42 _) rfl
theorem dX12_tellOne_110 : decode cX12_tellOne 110 = .ok (.getfield 58, 3) := dec_2 oX12_tellOne (of180 _) 0 58 rfl rfl
theorem dX12_tellOne_113 : decode cX12_tellOne 113 = .ok (.aload_n 0, 1) := dec_0 oX12_tellOne (of42 _) rfl
theorem dX12_tellOne_114 : decode cX12_tellOne 114 = .ok (.getfield 200, 3) := dec_2 oX12_tellOne (of180 _) 0 200 rfl rfl
theorem dX12_tellOne_117 : decode cX12_tellOne 117 = .ok (.aload_n 0, 1) := dec_0 oX12_tellOne (of42 _) rfl
theorem dX12_tellOne_118 : decode cX12_tellOne 118 = .ok (.iconst 0, 1) := dec_0 oX12_tellOne (of3 _) rfl
theorem dX12_tellOne_119 : decode cX12_tellOne 119 = .ok (.bipush 15, 2) := dec_s1 oX12_tellOne (of16 _) 15 rfl (sg8p rfl) rfl
theorem dX12_tellOne_121 : decode cX12_tellOne 121 = .ok (.invokevirtual 225, 3) := dec_2 oX12_tellOne (of182 _) 0 225 rfl rfl
theorem dX12_tellOne_124 : decode cX12_tellOne 124 = .ok (.iastore, 1) := dec_0 oX12_tellOne (of79 _) rfl
theorem dX12_tellOne_125 : decode cX12_tellOne 125 = .ok (.goto 65, 3) := dec_s2 oX12_tellOne (of167 _) 0 65 rfl (sg16p rfl) rfl
theorem dX12_tellOne_128 : decode cX12_tellOne 128 = .ok (.aload_n 0, 1) := dec_0 oX12_tellOne (of42 _) rfl
theorem dX12_tellOne_129 : decode cX12_tellOne 129 = .ok (.getfield 61, 3) := dec_2 oX12_tellOne (of180 _) 0 61 rfl rfl
theorem dX12_tellOne_132 : decode cX12_tellOne 132 = .ok (.aload_n 0, 1) := dec_0 oX12_tellOne (of42 _) rfl
theorem dX12_tellOne_133 : decode cX12_tellOne 133 = .ok (.getfield 200, 3) := dec_2 oX12_tellOne (of180 _) 0 200 rfl rfl
theorem dX12_tellOne_136 : decode cX12_tellOne 136 = .ok (.aload_n 0, 1) := dec_0 oX12_tellOne (of42 _) rfl
theorem dX12_tellOne_137 : decode cX12_tellOne 137 = .ok (.bipush 27, 2) := dec_s1 oX12_tellOne (of16 _) 27 rfl (sg8p rfl) rfl
theorem dX12_tellOne_139 : decode cX12_tellOne 139 = .ok (.iconst 4, 1) := dec_0 oX12_tellOne (of7 _) rfl
theorem dX12_tellOne_140 : decode cX12_tellOne 140 = .ok (.invokevirtual 228, 3) := dec_2 oX12_tellOne (of182 _) 0 228 rfl rfl
theorem dX12_tellOne_143 : decode cX12_tellOne 143 = .ok (.iastore, 1) := dec_0 oX12_tellOne (of79 _) rfl
theorem dX12_tellOne_144 : decode cX12_tellOne 144 = .ok (.goto 46, 3) := dec_s2 oX12_tellOne (of167 _) 0 46 rfl (sg16p rfl) rfl
theorem dX12_tellOne_147 : decode cX12_tellOne 147 = .ok (.aload_n 0, 1) := dec_0 oX12_tellOne (of42 _) rfl
theorem dX12_tellOne_148 : decode cX12_tellOne 148 = .ok (.getfield 64, 3) := dec_2 oX12_tellOne (of180 _) 0 64 rfl rfl
theorem dX12_tellOne_151 : decode cX12_tellOne 151 = .ok (.aload_n 0, 1) := dec_0 oX12_tellOne (of42 _) rfl
theorem dX12_tellOne_152 : decode cX12_tellOne 152 = .ok (.getfield 200, 3) := dec_2 oX12_tellOne (of180 _) 0 200 rfl rfl
theorem dX12_tellOne_155 : decode cX12_tellOne 155 = .ok (.aload_n 0, 1) := dec_0 oX12_tellOne (of42 _) rfl
theorem dX12_tellOne_156 : decode cX12_tellOne 156 = .ok (.bipush 31, 2) := dec_s1 oX12_tellOne (of16 _) 31 rfl (sg8p rfl) rfl
theorem dX12_tellOne_158 : decode cX12_tellOne 158 = .ok (.iconst 2, 1) := dec_0 oX12_tellOne (of5 _) rfl
theorem dX12_tellOne_159 : decode cX12_tellOne 159 = .ok (.invokevirtual 228, 3) := dec_2 oX12_tellOne (of182 _) 0 228 rfl rfl
theorem dX12_tellOne_162 : decode cX12_tellOne 162 = .ok (.iastore, 1) := dec_0 oX12_tellOne (of79 _) rfl
theorem dX12_tellOne_163 : decode cX12_tellOne 163 = .ok (.goto 27, 3) := dec_s2 oX12_tellOne (of167 _) 0 27 rfl (sg16p rfl) rfl
theorem dX12_tellOne_166 : decode cX12_tellOne 166 = .ok (.aload_n 0, 1) := dec_0 oX12_tellOne (of42 _) rfl
theorem dX12_tellOne_167 : decode cX12_tellOne 167 = .ok (.getfield 67, 3) := dec_2 oX12_tellOne (of180 _) 0 67 rfl rfl
theorem dX12_tellOne_170 : decode cX12_tellOne 170 = .ok (.aload_n 0, 1) := dec_0 oX12_tellOne (of42 _) rfl
theorem dX12_tellOne_171 : decode cX12_tellOne 171 = .ok (.getfield 200, 3) := dec_2 oX12_tellOne (of180 _) 0 200 rfl rfl
theorem dX12_tellOne_174 : decode cX12_tellOne 174 = .ok (.aload_n 0, 1) := dec_0 oX12_tellOne (of42 _) rfl
theorem dX12_tellOne_175 : decode cX12_tellOne 175 = .ok (.iconst 1, 1) := dec_0 oX12_tellOne (of4 _) rfl
theorem dX12_tellOne_176 : decode cX12_tellOne 176 = .ok (.bipush 99, 2) := dec_s1 oX12_tellOne (of16 _) 99 rfl (sg8p rfl) rfl
theorem dX12_tellOne_178 : decode cX12_tellOne 178 = .ok (.invokevirtual 225, 3) := dec_2 oX12_tellOne (of182 _) 0 225 rfl rfl
theorem dX12_tellOne_181 : decode cX12_tellOne 181 = .ok (.iastore, 1) := dec_0 oX12_tellOne (of79 _) rfl
theorem dX12_tellOne_182 : decode cX12_tellOne 182 = .ok (.goto 8, 3) := dec_s2 oX12_tellOne (of167 _) 0 8 rfl (sg16p rfl) rfl
theorem dX12_tellOne_185 : decode cX12_tellOne 185 = .ok (.aload_n 0, 1) := dec_0 oX12_tellOne (of42 _) rfl
theorem dX12_tellOne_186 : decode cX12_tellOne 186 = .ok (.iconst 1, 1) := dec_0 oX12_tellOne (of4 _) rfl
theorem dX12_tellOne_187 : decode cX12_tellOne 187 = .ok (.invokevirtual 185, 3) := dec_2 oX12_tellOne (of182 _) 0 185 rfl rfl
theorem dX12_tellOne_190 : decode cX12_tellOne 190 = .ok (.return_, 1) := dec_0 oX12_tellOne (of177 _) rfl
theorem dX12_bounded_0 : decode cX12_bounded 0 = .ok (.aload_n 0, 1) := dec_0 oX12_bounded (of42 _) rfl
theorem dX12_bounded_1 : decode cX12_bounded 1 = .ok (.getfield 161, 3) := dec_2 oX12_bounded (of180 _) 0 161 rfl rfl
theorem dX12_bounded_4 : decode cX12_bounded 4 = .ok (.ifCond .gt 11, 3) := dec_s2 oX12_bounded (of157 _) 0 11 rfl (sg16p rfl) rfl
theorem dX12_bounded_7 : decode cX12_bounded 7 = .ok (.aload_n 0, 1) := dec_0 oX12_bounded (of42 _) rfl
theorem dX12_bounded_8 : decode cX12_bounded 8 = .ok (.iconst 2, 1) := dec_0 oX12_bounded (of5 _) rfl
theorem dX12_bounded_9 : decode cX12_bounded 9 = .ok (.invokevirtual 188, 3) := dec_2 oX12_bounded (of182 _) 0 188 rfl rfl
theorem dX12_bounded_12 : decode cX12_bounded 12 = .ok (.ifCond .ne 10, 3) := dec_s2 oX12_bounded (of154 _) 0 10 rfl (sg16p rfl) rfl
theorem dX12_bounded_15 : decode cX12_bounded 15 = .ok (.aload_n 0, 1) := dec_0 oX12_bounded (of42 _) rfl
theorem dX12_bounded_16 : decode cX12_bounded 16 = .ok (.iconst 1, 1) := dec_0 oX12_bounded (of4 _) rfl
theorem dX12_bounded_17 : decode cX12_bounded 17 = .ok (.invokevirtual 185, 3) := dec_2 oX12_bounded (of182 _) 0 185 rfl rfl
theorem dX12_bounded_20 : decode cX12_bounded 20 = .ok (.iload_n 1, 1) := dec_0 oX12_bounded (of27 _) rfl
theorem dX12_bounded_21 : decode cX12_bounded 21 = .ok (.ireturn, 1) := dec_0 oX12_bounded (of172 _) rfl
theorem dX12_bounded_22 : decode cX12_bounded 22 = .ok (.aload_n 0, 1) := dec_0 oX12_bounded (of42 _) rfl
theorem dX12_bounded_23 : decode cX12_bounded 23 = .ok (.getfield 27, 3) := dec_2 oX12_bounded (of180 _) 0 27 rfl rfl
theorem dX12_bounded_26 : decode cX12_bounded 26 = .ok (.aload_n 0, 1) := dec_0 oX12_bounded (of42 _) rfl
theorem dX12_bounded_27 : decode cX12_bounded 27 = .ok (.getfield 164, 3) := dec_2 oX12_bounded (of180 _) 0 164 rfl rfl
theorem dX12_bounded_30 : decode cX12_bounded 30 = .ok (.iaload, 1) := dec_0 oX12_bounded (of46 _) rfl
theorem dX12_bounded_31 : decode cX12_bounded 31 = .ok (.istore_n 3, 1) := dec_0 oX12_bounded (of62 _) rfl
theorem dX12_bounded_32 : decode cX12_bounded 32 = .ok (.iload_n 3, 1) := dec_0 oX12_bounded (of29 _) rfl
theorem dX12_bounded_33 : decode cX12_bounded 33 = .ok (.iload_n 1, 1) := dec_0 oX12_bounded (of27 _) rfl
theorem dX12_bounded_34 : decode cX12_bounded 34 = .ok (.if_icmp .lt 8, 3) := dec_s2 oX12_bounded (of161 _) 0 8 rfl (sg16p rfl) rfl
theorem dX12_bounded_37 : decode cX12_bounded 37 = .ok (.iload_n 3, 1) := dec_0 oX12_bounded (of29 _) rfl
theorem dX12_bounded_38 : decode cX12_bounded 38 = .ok (.iload_n 2, 1) := dec_0 oX12_bounded (of28 _) rfl
theorem dX12_bounded_39 : decode cX12_bounded 39 = .ok (.if_icmp .le 12, 3) := dec_s2 oX12_bounded (of164 _) 0 12 rfl (sg16p rfl) rfl
theorem dX12_bounded_42 : decode cX12_bounded 42 = .ok (.aload_n 0, 1) := dec_0 oX12_bounded (of42 _) rfl
theorem dX12_bounded_43 : decode cX12_bounded 43 = .ok (.iconst 5, 1) := dec_0 oX12_bounded (of8 _) rfl
theorem dX12_bounded_44 : decode cX12_bounded 44 = .ok (.aload_n 0, 1) := dec_0 oX12_bounded (of42 _) rfl
theorem dX12_bounded_45 : decode cX12_bounded 45 = .ok (.getfield 164, 3) := dec_2 oX12_bounded (of180 _) 0 164 rfl rfl
theorem dX12_bounded_48 : decode cX12_bounded 48 = .ok (.invokevirtual 231, 3) := dec_2 oX12_bounded (of182 _) 0 231 rfl rfl
theorem dX12_bounded_51 : decode cX12_bounded 51 = .ok (.aload_n 0, 1) := dec_0 oX12_bounded (of42 _) rfl
theorem dX12_bounded_52 : decode cX12_bounded 52 = .ok (.invokevirtual 191, 3) := dec_2 oX12_bounded (of182 _) 0 191 rfl rfl
theorem dX12_bounded_55 : decode cX12_bounded 55 = .ok (.iload_n 3, 1) := dec_0 oX12_bounded (of29 _) rfl
theorem dX12_bounded_56 : decode cX12_bounded 56 = .ok (.ireturn, 1) := dec_0 oX12_bounded (of172 _) rfl
theorem dX12_isReading_0 : decode cX12_isReading 0 = .ok (.aload_n 0, 1) := dec_0 oX12_isReading (of42 _) rfl
theorem dX12_isReading_1 : decode cX12_isReading 1 = .ok (.bipush 9, 2) := dec_s1 oX12_isReading (of16 _) 9 rfl (sg8p rfl) rfl
theorem dX12_isReading_3 : decode cX12_isReading 3 = .ok (.invokevirtual 188, 3) := dec_2 oX12_isReading (of182 _) 0 188 rfl rfl
theorem dX12_isReading_6 : decode cX12_isReading 6 = .ok (.ifCond .ne 11, 3) := dec_s2 oX12_isReading (of154 _) 0 11 rfl (sg16p rfl) rfl
theorem dX12_isReading_9 : decode cX12_isReading 9 = .ok (.aload_n 0, 1) := dec_0 oX12_isReading (of42 _) rfl
theorem dX12_isReading_10 : decode cX12_isReading 10 = .ok (.iconst 2, 1) := dec_0 oX12_isReading (of5 _) rfl
theorem dX12_isReading_11 : decode cX12_isReading 11 = .ok (.invokevirtual 188, 3) := dec_2 oX12_isReading (of182 _) 0 188 rfl rfl
theorem dX12_isReading_14 : decode cX12_isReading 14 = .ok (.ifCond .eq 7, 3) := dec_s2 oX12_isReading (of153 _) 0 7 rfl (sg16p rfl) rfl
theorem dX12_isReading_17 : decode cX12_isReading 17 = .ok (.iconst 1, 1) := dec_0 oX12_isReading (of4 _) rfl
theorem dX12_isReading_18 : decode cX12_isReading 18 = .ok (.goto 4, 3) := dec_s2 oX12_isReading (of167 _) 0 4 rfl (sg16p rfl) rfl
theorem dX12_isReading_21 : decode cX12_isReading 21 = .ok (.iconst 0, 1) := dec_0 oX12_isReading (of3 _) rfl
theorem dX12_isReading_22 : decode cX12_isReading 22 = .ok (.ireturn, 1) := dec_0 oX12_isReading (of172 _) rfl
theorem dX12_readingTold_0 : decode cX12_readingTold 0 = .ok (.aload_n 0, 1) := dec_0 oX12_readingTold (of42 _) rfl
theorem dX12_readingTold_1 : decode cX12_readingTold 1 = .ok (.bipush 9, 2) := dec_s1 oX12_readingTold (of16 _) 9 rfl (sg8p rfl) rfl
theorem dX12_readingTold_3 : decode cX12_readingTold 3 = .ok (.invokevirtual 188, 3) := dec_2 oX12_readingTold (of182 _) 0 188 rfl rfl
theorem dX12_readingTold_6 : decode cX12_readingTold 6 = .ok (.istore_n 1, 1) := dec_0 oX12_readingTold (of60 _) rfl
theorem dX12_readingTold_7 : decode cX12_readingTold 7 = .ok (.iload_n 1, 1) := dec_0 oX12_readingTold (of27 _) rfl
theorem dX12_readingTold_8 : decode cX12_readingTold 8 = .ok (.ifCond .eq 7, 3) := dec_s2 oX12_readingTold (of153 _) 0 7 rfl (sg16p rfl) rfl
theorem dX12_readingTold_11 : decode cX12_readingTold 11 = .ok (.aload_n 0, 1) := dec_0 oX12_readingTold (of42 _) rfl
theorem dX12_readingTold_12 : decode cX12_readingTold 12 = .ok (.invokevirtual 191, 3) := dec_2 oX12_readingTold (of182 _) 0 191 rfl rfl
theorem dX12_readingTold_15 : decode cX12_readingTold 15 = .ok (.aload_n 0, 1) := dec_0 oX12_readingTold (of42 _) rfl
theorem dX12_readingTold_16 : decode cX12_readingTold 16 = .ok (.iconst 0, 1) := dec_0 oX12_readingTold (of3 _) rfl
theorem dX12_readingTold_17 : decode cX12_readingTold 17 = .ok (.sipush 999, 3) := dec_s2 oX12_readingTold (of17 _) 3 231 rfl (sg16p rfl) rfl
theorem dX12_readingTold_20 : decode cX12_readingTold 20 = .ok (.invokevirtual 212, 3) := dec_2 oX12_readingTold (of182 _) 0 212 rfl rfl
theorem dX12_readingTold_23 : decode cX12_readingTold 23 = .ok (.istore_n 2, 1) := dec_0 oX12_readingTold (of61 _) rfl
theorem dX12_readingTold_24 : decode cX12_readingTold 24 = .ok (.iload_n 1, 1) := dec_0 oX12_readingTold (of27 _) rfl
theorem dX12_readingTold_25 : decode cX12_readingTold 25 = .ok (.ifCond .eq 8, 3) := dec_s2 oX12_readingTold (of153 _) 0 8 rfl (sg16p rfl) rfl
theorem dX12_readingTold_28 : decode cX12_readingTold 28 = .ok (.iload_n 2, 1) := dec_0 oX12_readingTold (of28 _) rfl
theorem dX12_readingTold_29 : decode cX12_readingTold 29 = .ok (.ineg, 1) := dec_0 oX12_readingTold (of116 _) rfl
theorem dX12_readingTold_30 : decode cX12_readingTold 30 = .ok (.goto 4, 3) := dec_s2 oX12_readingTold (of167 _) 0 4 rfl (sg16p rfl) rfl
theorem dX12_readingTold_33 : decode cX12_readingTold 33 = .ok (.iload_n 2, 1) := dec_0 oX12_readingTold (of28 _) rfl
theorem dX12_readingTold_34 : decode cX12_readingTold 34 = .ok (.ireturn, 1) := dec_0 oX12_readingTold (of172 _) rfl
theorem dX12_tellSeries_0 : decode cX12_tellSeries 0 = .ok (.aload_n 0, 1) := dec_0 oX12_tellSeries (of42 _) rfl
theorem dX12_tellSeries_1 : decode cX12_tellSeries 1 = .ok (.iconst 0, 1) := dec_0 oX12_tellSeries (of3 _) rfl
theorem dX12_tellSeries_2 : decode cX12_tellSeries 2 = .ok (.putfield 170, 3) := dec_2 oX12_tellSeries (of181 _) 0 170 rfl rfl
theorem dX12_tellSeries_5 : decode cX12_tellSeries 5 = .ok (.aload_n 0, 1) := dec_0 oX12_tellSeries (of42 _) rfl
theorem dX12_tellSeries_6 : decode cX12_tellSeries 6 = .ok (.invokevirtual 235, 3) := dec_2 oX12_tellSeries (of182 _) 0 235 rfl rfl
theorem dX12_tellSeries_9 : decode cX12_tellSeries 9 = .ok (.ifCond .ne 12, 3) := dec_s2 oX12_tellSeries (of154 _) 0 12 rfl (sg16p rfl) rfl
theorem dX12_tellSeries_12 : decode cX12_tellSeries 12 = .ok (.aload_n 0, 1) := dec_0 oX12_tellSeries (of42 _) rfl
theorem dX12_tellSeries_13 : decode cX12_tellSeries 13 = .ok (.bipush 26, 2) := dec_s1 oX12_tellSeries (of16 _) 26 rfl (sg8p rfl) rfl
theorem dX12_tellSeries_15 : decode cX12_tellSeries 15 = .ok (.invokevirtual 188, 3) := dec_2 oX12_tellSeries (of182 _) 0 188 rfl rfl
theorem dX12_tellSeries_18 : decode cX12_tellSeries 18 = .ok (.ifCond .eq 116, 3) := dec_s2 oX12_tellSeries (of153 _) 0 116 rfl (sg16p rfl) rfl
theorem dX12_tellSeries_21 : decode cX12_tellSeries 21 = .ok (.aload_n 0, 1) := dec_0 oX12_tellSeries (of42 _) rfl
theorem dX12_tellSeries_22 : decode cX12_tellSeries 22 = .ok (.getfield 43, 3) := dec_2 oX12_tellSeries (of180 _) 0 43 rfl rfl
theorem dX12_tellSeries_25 : decode cX12_tellSeries 25 = .ok (.aload_n 0, 1) := dec_0 oX12_tellSeries (of42 _) rfl
theorem dX12_tellSeries_26 : decode cX12_tellSeries 26 = .ok (.getfield 200, 3) := dec_2 oX12_tellSeries (of180 _) 0 200 rfl rfl
theorem dX12_tellSeries_29 : decode cX12_tellSeries 29 = .ok (.iaload, 1) := dec_0 oX12_tellSeries (of46 _) rfl
theorem dX12_tellSeries_30 : decode cX12_tellSeries 30 = .ok (.sipush 160, 3) := dec_s2 oX12_tellSeries (of17 _) 0 160 rfl (sg16p rfl) rfl
theorem dX12_tellSeries_33 : decode cX12_tellSeries 33 = .ok (.if_icmp .ne 8, 3) := dec_s2 oX12_tellSeries (of160 _) 0 8 rfl (sg16p rfl) rfl
theorem dX12_tellSeries_36 : decode cX12_tellSeries 36 = .ok (.aload_n 0, 1) := dec_0 oX12_tellSeries (of42 _) rfl
theorem dX12_tellSeries_37 : decode cX12_tellSeries 37 = .ok (.iconst 2, 1) := dec_0 oX12_tellSeries (of5 _) rfl
theorem dX12_tellSeries_38 : decode cX12_tellSeries 38 = .ok (.invokevirtual 185, 3) := dec_2 oX12_tellSeries (of182 _) 0 185 rfl rfl
theorem dX12_tellSeries_41 : decode cX12_tellSeries 41 = .ok (.aload_n 0, 1) := dec_0 oX12_tellSeries (of42 _) rfl
theorem dX12_tellSeries_42 : decode cX12_tellSeries 42 = .ok (.getfield 161, 3) := dec_2 oX12_tellSeries (of180 _) 0 161 rfl rfl
theorem dX12_tellSeries_45 : decode cX12_tellSeries 45 = .ok (.ifCond .le 4, 3) := dec_s2 oX12_tellSeries (of158 _) 0 4 rfl (sg16p rfl) rfl
theorem dX12_tellSeries_48 : decode cX12_tellSeries 48 = .ok (.return_, 1) := dec_0 oX12_tellSeries (of177 _) rfl
theorem dX12_tellSeries_49 : decode cX12_tellSeries 49 = .ok (.aload_n 0, 1) := dec_0 oX12_tellSeries (of42 _) rfl
theorem dX12_tellSeries_50 : decode cX12_tellSeries 50 = .ok (.bipush 26, 2) := dec_s1 oX12_tellSeries (of16 _) 26 rfl (sg8p rfl) rfl
theorem dX12_tellSeries_52 : decode cX12_tellSeries 52 = .ok (.invokevirtual 188, 3) := dec_2 oX12_tellSeries (of182 _) 0 188 rfl rfl
theorem dX12_tellSeries_55 : decode cX12_tellSeries 55 = .ok (.istore_n 1, 1) := dec_0 oX12_tellSeries (of60 _) rfl
theorem dX12_tellSeries_56 : decode cX12_tellSeries 56 = .ok (.iload_n 1, 1) := dec_0 oX12_tellSeries (of27 _) rfl
theorem dX12_tellSeries_57 : decode cX12_tellSeries 57 = .ok (.ifCond .eq 7, 3) := dec_s2 oX12_tellSeries (of153 _) 0 7 rfl (sg16p rfl) rfl
theorem dX12_tellSeries_60 : decode cX12_tellSeries 60 = .ok (.aload_n 0, 1) := dec_0 oX12_tellSeries (of42 _) rfl
theorem dX12_tellSeries_61 : decode cX12_tellSeries 61 = .ok (.invokevirtual 191, 3) := dec_2 oX12_tellSeries (of182 _) 0 191 rfl rfl
theorem dX12_tellSeries_64 : decode cX12_tellSeries 64 = .ok (.aload_n 0, 1) := dec_0 oX12_tellSeries (of42 _) rfl
theorem dX12_tellSeries_65 : decode cX12_tellSeries 65 = .ok (.getfield 46, 3) := dec_2 oX12_tellSeries (of180 _) 0 46 rfl rfl
theorem dX12_tellSeries_68 : decode cX12_tellSeries 68 = .ok (.sipush 160, 3) := dec_s2 oX12_tellSeries (of17 _) 0 160 rfl (sg16p rfl) rfl
theorem dX12_tellSeries_71 : decode cX12_tellSeries 71 = .ok (.aload_n 0, 1) := dec_0 oX12_tellSeries (of42 _) rfl
theorem dX12_tellSeries_72 : decode cX12_tellSeries 72 = .ok (.getfield 200, 3) := dec_2 oX12_tellSeries (of180 _) 0 200 rfl rfl
theorem dX12_tellSeries_75 : decode cX12_tellSeries 75 = .ok (.imul, 1) := dec_0 oX12_tellSeries (of104 _) rfl
theorem dX12_tellSeries_76 : decode cX12_tellSeries 76 = .ok (.aload_n 0, 1) := dec_0 oX12_tellSeries (of42 _) rfl
theorem dX12_tellSeries_77 : decode cX12_tellSeries 77 = .ok (.getfield 43, 3) := dec_2 oX12_tellSeries (of180 _) 0 43 rfl rfl
theorem dX12_tellSeries_80 : decode cX12_tellSeries 80 = .ok (.aload_n 0, 1) := dec_0 oX12_tellSeries (of42 _) rfl
theorem dX12_tellSeries_81 : decode cX12_tellSeries 81 = .ok (.getfield 200, 3) := dec_2 oX12_tellSeries (of180 _) 0 200 rfl rfl
theorem dX12_tellSeries_84 : decode cX12_tellSeries 84 = .ok (.iaload, 1) := dec_0 oX12_tellSeries (of46 _) rfl
theorem dX12_tellSeries_85 : decode cX12_tellSeries 85 = .ok (.iadd, 1) := dec_0 oX12_tellSeries (of96 _) rfl
theorem dX12_tellSeries_86 : decode cX12_tellSeries 86 = .ok (.iload_n 1, 1) := dec_0 oX12_tellSeries (of27 _) rfl
theorem dX12_tellSeries_87 : decode cX12_tellSeries 87 = .ok (.ifCond .eq 8, 3) := dec_s2 oX12_tellSeries (of153 _) 0 8 rfl (sg16p rfl) rfl
theorem dX12_tellSeries_90 : decode cX12_tellSeries 90 = .ok (.ldc 239, 2) := dec_1 oX12_tellSeries (of18 _) 239 rfl rfl
theorem dX12_tellSeries_92 : decode cX12_tellSeries 92 = .ok (.goto 7, 3) := dec_s2 oX12_tellSeries (of167 _) 0 7 rfl (sg16p rfl) rfl
theorem dX12_tellSeries_95 : decode cX12_tellSeries 95 = .ok (.aload_n 0, 1) := dec_0 oX12_tellSeries (of42 _) rfl
theorem dX12_tellSeries_96 : decode cX12_tellSeries 96 = .ok (.invokevirtual 240, 3) := dec_2 oX12_tellSeries (of182 _) 0 240 rfl rfl
theorem dX12_tellSeries_99 : decode cX12_tellSeries 99 = .ok (.iastore, 1) := dec_0 oX12_tellSeries (of79 _) rfl
theorem dX12_tellSeries_100 : decode cX12_tellSeries 100 = .ok (.aload_n 0, 1) := dec_0 oX12_tellSeries (of42 _) rfl
theorem dX12_tellSeries_101 : decode cX12_tellSeries 101 = .ok (.getfield 161, 3) := dec_2 oX12_tellSeries (of180 _) 0 161 rfl rfl
theorem dX12_tellSeries_104 : decode cX12_tellSeries 104 = .ok (.ifCond .le 4, 3) := dec_s2 oX12_tellSeries (of158 _) 0 4 rfl (sg16p rfl) rfl
theorem dX12_tellSeries_107 : decode cX12_tellSeries 107 = .ok (.return_, 1) := dec_0 oX12_tellSeries (of177 _) rfl
theorem dX12_tellSeries_108 : decode cX12_tellSeries 108 = .ok (.aload_n 0, 1) := dec_0 oX12_tellSeries (of42 _) rfl
theorem dX12_tellSeries_109 : decode cX12_tellSeries 109 = .ok (.getfield 43, 3) := dec_2 oX12_tellSeries (of180 _) 0 43 rfl rfl
theorem dX12_tellSeries_112 : decode cX12_tellSeries 112 = .ok (.aload_n 0, 1) := dec_0 oX12_tellSeries (of42 _) rfl
theorem dX12_tellSeries_113 : decode cX12_tellSeries 113 = .ok (.getfield 200, 3) := dec_2 oX12_tellSeries (of180 _) 0 200 rfl rfl
theorem dX12_tellSeries_116 : decode cX12_tellSeries 116 = .ok (.dup2, 1) := dec_0 oX12_tellSeries (of92 _) rfl
theorem dX12_tellSeries_117 : decode cX12_tellSeries 117 = .ok (.iaload, 1) := dec_0 oX12_tellSeries (of46 _) rfl
theorem dX12_tellSeries_118 : decode cX12_tellSeries 118 = .ok (.iconst 1, 1) := dec_0 oX12_tellSeries (of4 _) rfl
theorem dX12_tellSeries_119 : decode cX12_tellSeries 119 = .ok (.iadd, 1) := dec_0 oX12_tellSeries (of96 _) rfl
theorem dX12_tellSeries_120 : decode cX12_tellSeries 120 = .ok (.iastore, 1) := dec_0 oX12_tellSeries (of79 _) rfl
theorem dX12_tellSeries_121 : decode cX12_tellSeries 121 = .ok (.aload_n 0, 1) := dec_0 oX12_tellSeries (of42 _) rfl
theorem dX12_tellSeries_122 : decode cX12_tellSeries 122 = .ok (.dup, 1) := dec_0 oX12_tellSeries (of89 _) rfl
theorem dX12_tellSeries_123 : decode cX12_tellSeries 123 = .ok (.getfield 170, 3) := dec_2 oX12_tellSeries (of180 _) 0 170 rfl rfl
theorem dX12_tellSeries_126 : decode cX12_tellSeries 126 = .ok (.iconst 1, 1) := dec_0 oX12_tellSeries (of4 _) rfl
theorem dX12_tellSeries_127 : decode cX12_tellSeries 127 = .ok (.iadd, 1) := dec_0 oX12_tellSeries (of96 _) rfl
theorem dX12_tellSeries_128 : decode cX12_tellSeries 128 = .ok (.putfield 170, 3) := dec_2 oX12_tellSeries (of181 _) 0 170 rfl rfl
theorem dX12_tellSeries_131 : decode cX12_tellSeries 131 = .ok (.goto (-126), 3) := dec_s2 oX12_tellSeries (of167 _) 255 130 rfl (sg16n (k := 126) rfl) rfl
theorem dX12_tellSeries_134 : decode cX12_tellSeries 134 = .ok (.aload_n 0, 1) := dec_0 oX12_tellSeries (of42 _) rfl
theorem dX12_tellSeries_135 : decode cX12_tellSeries 135 = .ok (.iconst 4, 1) := dec_0 oX12_tellSeries (of7 _) rfl
theorem dX12_tellSeries_136 : decode cX12_tellSeries 136 = .ok (.invokevirtual 216, 3) := dec_2 oX12_tellSeries (of182 _) 0 216 rfl rfl
theorem dX12_tellSeries_139 : decode cX12_tellSeries 139 = .ok (.aload_n 0, 1) := dec_0 oX12_tellSeries (of42 _) rfl
theorem dX12_tellSeries_140 : decode cX12_tellSeries 140 = .ok (.getfield 161, 3) := dec_2 oX12_tellSeries (of180 _) 0 161 rfl rfl
theorem dX12_tellSeries_143 : decode cX12_tellSeries 143 = .ok (.ifCond .ne 9, 3) := dec_s2 oX12_tellSeries (of154 _) 0 9 rfl (sg16p rfl) rfl
theorem dX12_tellSeries_146 : decode cX12_tellSeries 146 = .ok (.aload_n 0, 1) := dec_0 oX12_tellSeries (of42 _) rfl
theorem dX12_tellSeries_147 : decode cX12_tellSeries 147 = .ok (.bipush (-2), 2) := dec_s1 oX12_tellSeries (of16 _) 254 rfl (sg8n (k := 2) rfl) rfl
theorem dX12_tellSeries_149 : decode cX12_tellSeries 149 = .ok (.putfield 170, 3) := dec_2 oX12_tellSeries (of181 _) 0 170 rfl rfl
theorem dX12_tellSeries_152 : decode cX12_tellSeries 152 = .ok (.return_, 1) := dec_0 oX12_tellSeries (of177 _) rfl
theorem dX12_tellQuery_0 : decode cX12_tellQuery 0 = .ok (.aload_n 0, 1) := dec_0 oX12_tellQuery (of42 _) rfl
end
section
theorem dX12_tellQuery_1 : decode cX12_tellQuery 1 = .ok (.iconst 0, 1) := dec_0 oX12_tellQuery (of3 _) rfl
theorem dX12_tellQuery_2 : decode cX12_tellQuery 2 = .ok (.putfield 170, 3) := dec_2 oX12_tellQuery (of181 _) 0 170 rfl rfl
theorem dX12_tellQuery_5 : decode cX12_tellQuery 5 = .ok (.iconst 5, 1) := dec_0 oX12_tellQuery (of8 _) rfl
theorem dX12_tellQuery_6 : decode cX12_tellQuery 6 = .ok (.aload_n 0, 1) := dec_0 oX12_tellQuery (of42 _) rfl
theorem dX12_tellQuery_7 : decode cX12_tellQuery 7 = .ok (.getfield 200, 3) := dec_2 oX12_tellQuery (of180 _) 0 200 rfl rfl
theorem dX12_tellQuery_10 : decode cX12_tellQuery 10 = .ok (.imul, 1) := dec_0 oX12_tellQuery (of104 _) rfl
theorem dX12_tellQuery_11 : decode cX12_tellQuery 11 = .ok (.aload_n 0, 1) := dec_0 oX12_tellQuery (of42 _) rfl
theorem dX12_tellQuery_12 : decode cX12_tellQuery 12 = .ok (.getfield 49, 3) := dec_2 oX12_tellQuery (of180 _) 0 49 rfl rfl
theorem dX12_tellQuery_15 : decode cX12_tellQuery 15 = .ok (.aload_n 0, 1) := dec_0 oX12_tellQuery (of42 _) rfl
theorem dX12_tellQuery_16 : decode cX12_tellQuery 16 = .ok (.getfield 200, 3) := dec_2 oX12_tellQuery (of180 _) 0 200 rfl rfl
theorem dX12_tellQuery_19 : decode cX12_tellQuery 19 = .ok (.iaload, 1) := dec_0 oX12_tellQuery (of46 _) rfl
theorem dX12_tellQuery_20 : decode cX12_tellQuery 20 = .ok (.iadd, 1) := dec_0 oX12_tellQuery (of96 _) rfl
theorem dX12_tellQuery_21 : decode cX12_tellQuery 21 = .ok (.istore_n 1, 1) := dec_0 oX12_tellQuery (of60 _) rfl
theorem dX12_tellQuery_22 : decode cX12_tellQuery 22 = .ok (.aload_n 0, 1) := dec_0 oX12_tellQuery (of42 _) rfl
theorem dX12_tellQuery_23 : decode cX12_tellQuery 23 = .ok (.getfield 164, 3) := dec_2 oX12_tellQuery (of180 _) 0 164 rfl rfl
theorem dX12_tellQuery_26 : decode cX12_tellQuery 26 = .ok (.istore_n 2, 1) := dec_0 oX12_tellQuery (of61 _) rfl
theorem dX12_tellQuery_27 : decode cX12_tellQuery 27 = .ok (.aload_n 0, 1) := dec_0 oX12_tellQuery (of42 _) rfl
theorem dX12_tellQuery_28 : decode cX12_tellQuery 28 = .ok (.iconst 1, 1) := dec_0 oX12_tellQuery (of4 _) rfl
theorem dX12_tellQuery_29 : decode cX12_tellQuery 29 = .ok (.invokevirtual 216, 3) := dec_2 oX12_tellQuery (of182 _) 0 216 rfl rfl
theorem dX12_tellQuery_32 : decode cX12_tellQuery 32 = .ok (.iconst 0, 1) := dec_0 oX12_tellQuery (of3 _) rfl
theorem dX12_tellQuery_33 : decode cX12_tellQuery 33 = .ok (.istore_n 3, 1) := dec_0 oX12_tellQuery (of62 _) rfl
theorem dX12_tellQuery_34 : decode cX12_tellQuery 34 = .ok (.iload_n 3, 1) := dec_0 oX12_tellQuery (of29 _) rfl
theorem dX12_tellQuery_35 : decode cX12_tellQuery 35 = .ok (.aload_n 0, 1) := dec_0 oX12_tellQuery (of42 _) rfl
theorem dX12_tellQuery_36 : decode cX12_tellQuery 36 = .ok (.getfield 203, 3) := dec_2 oX12_tellQuery (of180 _) 0 203 rfl rfl
theorem dX12_tellQuery_39 : decode cX12_tellQuery 39 = .ok (.if_icmp .ge 38, 3) := dec_s2 oX12_tellQuery (of162 _) 0 38 rfl (sg16p rfl) rfl
theorem dX12_tellQuery_42 : decode cX12_tellQuery 42 = .ok (.aload_n 0, 1) := dec_0 oX12_tellQuery (of42 _) rfl
theorem dX12_tellQuery_43 : decode cX12_tellQuery 43 = .ok (.getfield 161, 3) := dec_2 oX12_tellQuery (of180 _) 0 161 rfl rfl
theorem dX12_tellQuery_46 : decode cX12_tellQuery 46 = .ok (.ifCond .ne 31, 3) := dec_s2 oX12_tellQuery (of154 _) 0 31 rfl (sg16p rfl) rfl
theorem dX12_tellQuery_49 : decode cX12_tellQuery 49 = .ok (.aload_n 0, 1) := dec_0 oX12_tellQuery (of42 _) rfl
theorem dX12_tellQuery_50 : decode cX12_tellQuery 50 = .ok (.getfield 40, 3) := dec_2 oX12_tellQuery (of180 _) 0 40 rfl rfl
theorem dX12_tellQuery_53 : decode cX12_tellQuery 53 = .ok (.iload_n 3, 1) := dec_0 oX12_tellQuery (of29 _) rfl
theorem dX12_tellQuery_54 : decode cX12_tellQuery 54 = .ok (.laload, 1) := dec_0 oX12_tellQuery (of47 _) rfl
theorem dX12_tellQuery_55 : decode cX12_tellQuery 55 = .ok (.aload_n 0, 1) := dec_0 oX12_tellQuery (of42 _) rfl
theorem dX12_tellQuery_56 : decode cX12_tellQuery 56 = .ok (.getfield 30, 3) := dec_2 oX12_tellQuery (of180 _) 0 30 rfl rfl
theorem dX12_tellQuery_59 : decode cX12_tellQuery 59 = .ok (.iload_n 2, 1) := dec_0 oX12_tellQuery (of28 _) rfl
theorem dX12_tellQuery_60 : decode cX12_tellQuery 60 = .ok (.laload, 1) := dec_0 oX12_tellQuery (of47 _) rfl
theorem dX12_tellQuery_61 : decode cX12_tellQuery 61 = .ok (.lcmp, 1) := dec_0 oX12_tellQuery (of148 _) rfl
theorem dX12_tellQuery_62 : decode cX12_tellQuery 62 = .ok (.ifCond .ne 9, 3) := dec_s2 oX12_tellQuery (of154 _) 0 9 rfl (sg16p rfl) rfl
theorem dX12_tellQuery_65 : decode cX12_tellQuery 65 = .ok (.aload_n 0, 1) := dec_0 oX12_tellQuery (of42 _) rfl
theorem dX12_tellQuery_66 : decode cX12_tellQuery 66 = .ok (.iconst 3, 1) := dec_0 oX12_tellQuery (of6 _) rfl
theorem dX12_tellQuery_67 : decode cX12_tellQuery 67 = .ok (.iload_n 2, 1) := dec_0 oX12_tellQuery (of28 _) rfl
theorem dX12_tellQuery_68 : decode cX12_tellQuery 68 = .ok (.invokevirtual 231, 3) := dec_2 oX12_tellQuery (of182 _) 0 231 rfl rfl
theorem dX12_tellQuery_71 : decode cX12_tellQuery 71 = .ok (.iinc 3 1, 3) := dec_ii oX12_tellQuery (of132 _) 3 1 rfl (sg8p rfl) rfl
theorem dX12_tellQuery_74 : decode cX12_tellQuery 74 = .ok (.goto (-40), 3) := dec_s2 oX12_tellQuery (of167 _) 255 216 rfl (sg16n (k := 40) rfl) rfl
theorem dX12_tellQuery_77 : decode cX12_tellQuery 77 = .ok (.aload_n 0, 1) := dec_0 oX12_tellQuery (of42 _) rfl
theorem dX12_tellQuery_78 : decode cX12_tellQuery 78 = .ok (.getfield 52, 3) := dec_2 oX12_tellQuery (of180 _) 0 52 rfl rfl
theorem dX12_tellQuery_81 : decode cX12_tellQuery 81 = .ok (.iload_n 1, 1) := dec_0 oX12_tellQuery (of27 _) rfl
theorem dX12_tellQuery_82 : decode cX12_tellQuery 82 = .ok (.iconst 0, 1) := dec_0 oX12_tellQuery (of3 _) rfl
theorem dX12_tellQuery_83 : decode cX12_tellQuery 83 = .ok (.iastore, 1) := dec_0 oX12_tellQuery (of79 _) rfl
theorem dX12_tellQuery_84 : decode cX12_tellQuery 84 = .ok (.aload_n 0, 1) := dec_0 oX12_tellQuery (of42 _) rfl
theorem dX12_tellQuery_85 : decode cX12_tellQuery 85 = .ok (.invokevirtual 235, 3) := dec_2 oX12_tellQuery (of182 _) 0 235 rfl rfl
theorem dX12_tellQuery_88 : decode cX12_tellQuery 88 = .ok (.ifCond .eq 78, 3) := dec_s2 oX12_tellQuery (of153 _) 0 78 rfl (sg16p rfl) rfl
theorem dX12_tellQuery_91 : decode cX12_tellQuery 91 = .ok (.aload_n 0, 1) := dec_0 oX12_tellQuery (of42 _) rfl
theorem dX12_tellQuery_92 : decode cX12_tellQuery 92 = .ok (.getfield 52, 3) := dec_2 oX12_tellQuery (of180 _) 0 52 rfl rfl
theorem dX12_tellQuery_95 : decode cX12_tellQuery 95 = .ok (.iload_n 1, 1) := dec_0 oX12_tellQuery (of27 _) rfl
theorem dX12_tellQuery_96 : decode cX12_tellQuery 96 = .ok (.iaload, 1) := dec_0 oX12_tellQuery (of46 _) rfl
theorem dX12_tellQuery_97 : decode cX12_tellQuery 97 = .ok (.bipush 16, 2) := dec_s1 oX12_tellQuery (of16 _) 16 rfl (sg8p rfl) rfl
theorem dX12_tellQuery_99 : decode cX12_tellQuery 99 = .ok (.if_icmp .ne 8, 3) := dec_s2 oX12_tellQuery (of160 _) 0 8 rfl (sg16p rfl) rfl
theorem dX12_tellQuery_102 : decode cX12_tellQuery 102 = .ok (.aload_n 0, 1) := dec_0 oX12_tellQuery (of42 _) rfl
theorem dX12_tellQuery_103 : decode cX12_tellQuery 103 = .ok (.iconst 2, 1) := dec_0 oX12_tellQuery (of5 _) rfl
theorem dX12_tellQuery_104 : decode cX12_tellQuery 104 = .ok (.invokevirtual 185, 3) := dec_2 oX12_tellQuery (of182 _) 0 185 rfl rfl
theorem dX12_tellQuery_107 : decode cX12_tellQuery 107 = .ok (.aload_n 0, 1) := dec_0 oX12_tellQuery (of42 _) rfl
theorem dX12_tellQuery_108 : decode cX12_tellQuery 108 = .ok (.getfield 161, 3) := dec_2 oX12_tellQuery (of180 _) 0 161 rfl rfl
theorem dX12_tellQuery_111 : decode cX12_tellQuery 111 = .ok (.ifCond .le 4, 3) := dec_s2 oX12_tellQuery (of158 _) 0 4 rfl (sg16p rfl) rfl
theorem dX12_tellQuery_114 : decode cX12_tellQuery 114 = .ok (.return_, 1) := dec_0 oX12_tellQuery (of177 _) rfl
theorem dX12_tellQuery_115 : decode cX12_tellQuery 115 = .ok (.aload_n 0, 1) := dec_0 oX12_tellQuery (of42 _) rfl
theorem dX12_tellQuery_116 : decode cX12_tellQuery 116 = .ok (.getfield 55, 3) := dec_2 oX12_tellQuery (of180 _) 0 55 rfl rfl
theorem dX12_tellQuery_119 : decode cX12_tellQuery 119 = .ok (.bipush 16, 2) := dec_s1 oX12_tellQuery (of16 _) 16 rfl (sg8p rfl) rfl
theorem dX12_tellQuery_121 : decode cX12_tellQuery 121 = .ok (.iload_n 1, 1) := dec_0 oX12_tellQuery (of27 _) rfl
theorem dX12_tellQuery_122 : decode cX12_tellQuery 122 = .ok (.imul, 1) := dec_0 oX12_tellQuery (of104 _) rfl
theorem dX12_tellQuery_123 : decode cX12_tellQuery 123 = .ok (.aload_n 0, 1) := dec_0 oX12_tellQuery (of42 _) rfl
theorem dX12_tellQuery_124 : decode cX12_tellQuery 124 = .ok (.getfield 52, 3) := dec_2 oX12_tellQuery (of180 _) 0 52 rfl rfl
theorem dX12_tellQuery_127 : decode cX12_tellQuery 127 = .ok (.iload_n 1, 1) := dec_0 oX12_tellQuery (of27 _) rfl
theorem dX12_tellQuery_128 : decode cX12_tellQuery 128 = .ok (.iaload, 1) := dec_0 oX12_tellQuery (of46 _) rfl
theorem dX12_tellQuery_129 : decode cX12_tellQuery 129 = .ok (.iadd, 1) := dec_0 oX12_tellQuery (of96 _) rfl
theorem dX12_tellQuery_130 : decode cX12_tellQuery 130 = .ok (.aload_n 0, 1) := dec_0 oX12_tellQuery (of42 _) rfl
theorem dX12_tellQuery_131 : decode cX12_tellQuery 131 = .ok (.invokevirtual 240, 3) := dec_2 oX12_tellQuery (of182 _) 0 240 rfl rfl
theorem dX12_tellQuery_134 : decode cX12_tellQuery 134 = .ok (.iastore, 1) := dec_0 oX12_tellQuery (of79 _) rfl
theorem dX12_tellQuery_135 : decode cX12_tellQuery 135 = .ok (.aload_n 0, 1) := dec_0 oX12_tellQuery (of42 _) rfl
theorem dX12_tellQuery_136 : decode cX12_tellQuery 136 = .ok (.getfield 161, 3) := dec_2 oX12_tellQuery (of180 _) 0 161 rfl rfl
theorem dX12_tellQuery_139 : decode cX12_tellQuery 139 = .ok (.ifCond .le 4, 3) := dec_s2 oX12_tellQuery (of158 _) 0 4 rfl (sg16p rfl) rfl
theorem dX12_tellQuery_142 : decode cX12_tellQuery 142 = .ok (.return_, 1) := dec_0 oX12_tellQuery (of177 _) rfl
theorem dX12_tellQuery_143 : decode cX12_tellQuery 143 = .ok (.aload_n 0, 1) := dec_0 oX12_tellQuery (of42 _) rfl
theorem dX12_tellQuery_144 : decode cX12_tellQuery 144 = .ok (.getfield 52, 3) := dec_2 oX12_tellQuery (of180 _) 0 52 rfl rfl
theorem dX12_tellQuery_147 : decode cX12_tellQuery 147 = .ok (.iload_n 1, 1) := dec_0 oX12_tellQuery (of27 _) rfl
theorem dX12_tellQuery_148 : decode cX12_tellQuery 148 = .ok (.dup2, 1) := dec_0 oX12_tellQuery (of92 _) rfl
theorem dX12_tellQuery_149 : decode cX12_tellQuery 149 = .ok (.iaload, 1) := dec_0 oX12_tellQuery (of46 _) rfl
theorem dX12_tellQuery_150 : decode cX12_tellQuery 150 = .ok (.iconst 1, 1) := dec_0 oX12_tellQuery (of4 _) rfl
theorem dX12_tellQuery_151 : decode cX12_tellQuery 151 = .ok (.iadd, 1) := dec_0 oX12_tellQuery (of96 _) rfl
theorem dX12_tellQuery_152 : decode cX12_tellQuery 152 = .ok (.iastore, 1) := dec_0 oX12_tellQuery (of79 _) rfl
theorem dX12_tellQuery_153 : decode cX12_tellQuery 153 = .ok (.aload_n 0, 1) := dec_0 oX12_tellQuery (of42 _) rfl
theorem dX12_tellQuery_154 : decode cX12_tellQuery 154 = .ok (.dup, 1) := dec_0 oX12_tellQuery (of89 _) rfl
theorem dX12_tellQuery_155 : decode cX12_tellQuery 155 = .ok (.getfield 170, 3) := dec_2 oX12_tellQuery (of180 _) 0 170 rfl rfl
theorem dX12_tellQuery_158 : decode cX12_tellQuery 158 = .ok (.iconst 1, 1) := dec_0 oX12_tellQuery (of4 _) rfl
theorem dX12_tellQuery_159 : decode cX12_tellQuery 159 = .ok (.iadd, 1) := dec_0 oX12_tellQuery (of96 _) rfl
theorem dX12_tellQuery_160 : decode cX12_tellQuery 160 = .ok (.putfield 170, 3) := dec_2 oX12_tellQuery (of181 _) 0 170 rfl rfl
theorem dX12_tellQuery_163 : decode cX12_tellQuery 163 = .ok (.goto (-79), 3) := dec_s2 oX12_tellQuery (of167 _) 255 177 rfl (sg16n (k := 79) rfl) rfl
theorem dX12_tellQuery_166 : decode cX12_tellQuery 166 = .ok (.aload_n 0, 1) := dec_0 oX12_tellQuery (of42 _) rfl
theorem dX12_tellQuery_167 : decode cX12_tellQuery 167 = .ok (.iconst 4, 1) := dec_0 oX12_tellQuery (of7 _) rfl
theorem dX12_tellQuery_168 : decode cX12_tellQuery 168 = .ok (.invokevirtual 188, 3) := dec_2 oX12_tellQuery (of182 _) 0 188 rfl rfl
theorem dX12_tellQuery_171 : decode cX12_tellQuery 171 = .ok (.ifCond .eq 23, 3) := dec_s2 oX12_tellQuery (of153 _) 0 23 rfl (sg16p rfl) rfl
theorem dX12_tellQuery_174 : decode cX12_tellQuery 174 = .ok (.aload_n 0, 1) := dec_0 oX12_tellQuery (of42 _) rfl
theorem dX12_tellQuery_175 : decode cX12_tellQuery 175 = .ok (.getfield 52, 3) := dec_2 oX12_tellQuery (of180 _) 0 52 rfl rfl
theorem dX12_tellQuery_178 : decode cX12_tellQuery 178 = .ok (.iload_n 1, 1) := dec_0 oX12_tellQuery (of27 _) rfl
theorem dX12_tellQuery_179 : decode cX12_tellQuery 179 = .ok (.iaload, 1) := dec_0 oX12_tellQuery (of46 _) rfl
theorem dX12_tellQuery_180 : decode cX12_tellQuery 180 = .ok (.iconst 2, 1) := dec_0 oX12_tellQuery (of5 _) rfl
theorem dX12_tellQuery_181 : decode cX12_tellQuery 181 = .ok (.if_icmp .ge 13, 3) := dec_s2 oX12_tellQuery (of162 _) 0 13 rfl (sg16p rfl) rfl
theorem dX12_tellQuery_184 : decode cX12_tellQuery 184 = .ok (.aload_n 0, 1) := dec_0 oX12_tellQuery (of42 _) rfl
theorem dX12_tellQuery_185 : decode cX12_tellQuery 185 = .ok (.bipush 6, 2) := dec_s1 oX12_tellQuery (of16 _) 6 rfl (sg8p rfl) rfl
theorem dX12_tellQuery_187 : decode cX12_tellQuery 187 = .ok (.aload_n 0, 1) := dec_0 oX12_tellQuery (of42 _) rfl
theorem dX12_tellQuery_188 : decode cX12_tellQuery 188 = .ok (.getfield 164, 3) := dec_2 oX12_tellQuery (of180 _) 0 164 rfl rfl
theorem dX12_tellQuery_191 : decode cX12_tellQuery 191 = .ok (.invokevirtual 231, 3) := dec_2 oX12_tellQuery (of182 _) 0 231 rfl rfl
theorem dX12_tellQuery_194 : decode cX12_tellQuery 194 = .ok (.aload_n 0, 1) := dec_0 oX12_tellQuery (of42 _) rfl
theorem dX12_tellQuery_195 : decode cX12_tellQuery 195 = .ok (.iconst 4, 1) := dec_0 oX12_tellQuery (of7 _) rfl
theorem dX12_tellQuery_196 : decode cX12_tellQuery 196 = .ok (.invokevirtual 216, 3) := dec_2 oX12_tellQuery (of182 _) 0 216 rfl rfl
theorem dX12_tellQuery_199 : decode cX12_tellQuery 199 = .ok (.aload_n 0, 1) := dec_0 oX12_tellQuery (of42 _) rfl
theorem dX12_tellQuery_200 : decode cX12_tellQuery 200 = .ok (.getfield 161, 3) := dec_2 oX12_tellQuery (of180 _) 0 161 rfl rfl
theorem dX12_tellQuery_203 : decode cX12_tellQuery 203 = .ok (.ifCond .le 4, 3) := dec_s2 oX12_tellQuery (of158 _) 0 4 rfl (sg16p rfl) rfl
theorem dX12_tellQuery_206 : decode cX12_tellQuery 206 = .ok (.return_, 1) := dec_0 oX12_tellQuery (of177 _) rfl
theorem dX12_tellQuery_207 : decode cX12_tellQuery 207 = .ok (.aload_n 0, 1) := dec_0 oX12_tellQuery (of42 _) rfl
theorem dX12_tellQuery_208 : decode cX12_tellQuery 208 = .ok (.bipush (-2), 2) := dec_s1 oX12_tellQuery (of16 _) 254 rfl (sg8n (k := 2) rfl) rfl
theorem dX12_tellQuery_210 : decode cX12_tellQuery 210 = .ok (.putfield 170, 3) := dec_2 oX12_tellQuery (of181 _) 0 170 rfl rfl
theorem dX12_tellQuery_213 : decode cX12_tellQuery 213 = .ok (.aload_n 0, 1) := dec_0 oX12_tellQuery (of42 _) rfl
theorem dX12_tellQuery_214 : decode cX12_tellQuery 214 = .ok (.getfield 40, 3) := dec_2 oX12_tellQuery (of180 _) 0 40 rfl rfl
theorem dX12_tellQuery_217 : decode cX12_tellQuery 217 = .ok (.aload_n 0, 1) := dec_0 oX12_tellQuery (of42 _) rfl
theorem dX12_tellQuery_218 : decode cX12_tellQuery 218 = .ok (.getfield 203, 3) := dec_2 oX12_tellQuery (of180 _) 0 203 rfl rfl
theorem dX12_tellQuery_221 : decode cX12_tellQuery 221 = .ok (.aload_n 0, 1) := dec_0 oX12_tellQuery (of42 _) rfl
theorem dX12_tellQuery_222 : decode cX12_tellQuery 222 = .ok (.getfield 30, 3) := dec_2 oX12_tellQuery (of180 _) 0 30 rfl rfl
theorem dX12_tellQuery_225 : decode cX12_tellQuery 225 = .ok (.iload_n 2, 1) := dec_0 oX12_tellQuery (of28 _) rfl
theorem dX12_tellQuery_226 : decode cX12_tellQuery 226 = .ok (.laload, 1) := dec_0 oX12_tellQuery (of47 _) rfl
theorem dX12_tellQuery_227 : decode cX12_tellQuery 227 = .ok (.lastore, 1) := dec_0 oX12_tellQuery (of80 _) rfl
theorem dX12_tellQuery_228 : decode cX12_tellQuery 228 = .ok (.aload_n 0, 1) := dec_0 oX12_tellQuery (of42 _) rfl
theorem dX12_tellQuery_229 : decode cX12_tellQuery 229 = .ok (.dup, 1) := dec_0 oX12_tellQuery (of89 _) rfl
theorem dX12_tellQuery_230 : decode cX12_tellQuery 230 = .ok (.getfield 203, 3) := dec_2 oX12_tellQuery (of180 _) 0 203 rfl rfl
theorem dX12_tellQuery_233 : decode cX12_tellQuery 233 = .ok (.iconst 1, 1) := dec_0 oX12_tellQuery (of4 _) rfl
theorem dX12_tellQuery_234 : decode cX12_tellQuery 234 = .ok (.iadd, 1) := dec_0 oX12_tellQuery (of96 _) rfl
theorem dX12_tellQuery_235 : decode cX12_tellQuery 235 = .ok (.putfield 203, 3) := dec_2 oX12_tellQuery (of181 _) 0 203 rfl rfl
theorem dX12_tellQuery_238 : decode cX12_tellQuery 238 = .ok (.aload_n 0, 1) := dec_0 oX12_tellQuery (of42 _) rfl
theorem dX12_tellQuery_239 : decode cX12_tellQuery 239 = .ok (.getfield 49, 3) := dec_2 oX12_tellQuery (of180 _) 0 49 rfl rfl
theorem dX12_tellQuery_242 : decode cX12_tellQuery 242 = .ok (.aload_n 0, 1) := dec_0 oX12_tellQuery (of42 _) rfl
theorem dX12_tellQuery_243 : decode cX12_tellQuery 243 = .ok (.getfield 200, 3) := dec_2 oX12_tellQuery (of180 _) 0 200 rfl rfl
theorem dX12_tellQuery_246 : decode cX12_tellQuery 246 = .ok (.dup2, 1) := dec_0 oX12_tellQuery (of92 _) rfl
theorem dX12_tellQuery_247 : decode cX12_tellQuery 247 = .ok (.iaload, 1) := dec_0 oX12_tellQuery (of46 _) rfl
theorem dX12_tellQuery_248 : decode cX12_tellQuery 248 = .ok (.iconst 1, 1) := dec_0 oX12_tellQuery (of4 _) rfl
theorem dX12_tellQuery_249 : decode cX12_tellQuery 249 = .ok (.iadd, 1) := dec_0 oX12_tellQuery (of96 _) rfl
theorem dX12_tellQuery_250 : decode cX12_tellQuery 250 = .ok (.iastore, 1) := dec_0 oX12_tellQuery (of79 _) rfl
theorem dX12_tellQuery_251 : decode cX12_tellQuery 251 = .ok (.return_, 1) := dec_0 oX12_tellQuery (of177 _) rfl
theorem dX12_downBy_0 : decode cX12_downBy 0 = .ok (.iload_n 0, 1) := dec_0 oX12_downBy (of26 _) rfl
theorem dX12_downBy_1 : decode cX12_downBy 1 = .ok (.iload_n 1, 1) := dec_0 oX12_downBy (of27 _) rfl
theorem dX12_downBy_2 : decode cX12_downBy 2 = .ok (.idiv, 1) := dec_0 oX12_downBy (of108 _) rfl
theorem dX12_downBy_3 : decode cX12_downBy 3 = .ok (.istore_n 2, 1) := dec_0 oX12_downBy (of61 _) rfl
theorem dX12_downBy_4 : decode cX12_downBy 4 = .ok (.iload_n 0, 1) := dec_0 oX12_downBy (of26 _) rfl
theorem dX12_downBy_5 : decode cX12_downBy 5 = .ok (.iload_n 1, 1) := dec_0 oX12_downBy (of27 _) rfl
theorem dX12_downBy_6 : decode cX12_downBy 6 = .ok (.irem, 1) := dec_0 oX12_downBy (of112 _) rfl
theorem dX12_downBy_7 : decode cX12_downBy 7 = .ok (.ifCond .ge 9, 3) := dec_s2 oX12_downBy (of156 _) 0 9 rfl (sg16p rfl) rfl
theorem dX12_downBy_10 : decode cX12_downBy 10 = .ok (.iload_n 2, 1) := dec_0 oX12_downBy (of28 _) rfl
theorem dX12_downBy_11 : decode cX12_downBy 11 = .ok (.iconst 1, 1) := dec_0 oX12_downBy (of4 _) rfl
theorem dX12_downBy_12 : decode cX12_downBy 12 = .ok (.isub, 1) := dec_0 oX12_downBy (of100 _) rfl
theorem dX12_downBy_13 : decode cX12_downBy 13 = .ok (.goto 4, 3) := dec_s2 oX12_downBy (of167 _) 0 4 rfl (sg16p rfl) rfl
theorem dX12_downBy_16 : decode cX12_downBy 16 = .ok (.iload_n 2, 1) := dec_0 oX12_downBy (of28 _) rfl
theorem dX12_downBy_17 : decode cX12_downBy 17 = .ok (.ireturn, 1) := dec_0 oX12_downBy (of172 _) rfl
theorem dX12_begins_49 : decode cX12_begins 49 = .ok (.aload_n 0, 1) := dec_0 oX12_begins (of42 _) rfl
theorem dX12_begins_50 : decode cX12_begins 50 = .ok (.getfield 73, 3) := dec_2 oX12_begins (of180 _) 0 73 rfl rfl
theorem dX12_begins_53 : decode cX12_begins 53 = .ok (.iconst 1, 1) := dec_0 oX12_begins (of4 _) rfl
theorem dX12_begins_54 : decode cX12_begins 54 = .ok (.iload_n 1, 1) := dec_0 oX12_begins (of27 _) rfl
theorem dX12_begins_55 : decode cX12_begins 55 = .ok (.iadd, 1) := dec_0 oX12_begins (of96 _) rfl
theorem dX12_begins_56 : decode cX12_begins 56 = .ok (.aload_n 0, 1) := dec_0 oX12_begins (of42 _) rfl
theorem dX12_begins_57 : decode cX12_begins 57 = .ok (.getfield 46, 3) := dec_2 oX12_begins (of180 _) 0 46 rfl rfl
theorem dX12_begins_60 : decode cX12_begins 60 = .ok (.sipush 160, 3) := dec_s2 oX12_begins (of17 _) 0 160 rfl (sg16p rfl) rfl
theorem dX12_begins_63 : decode cX12_begins 63 = .ok (.aload_n 0, 1) := dec_0 oX12_begins (of42 _) rfl
theorem dX12_begins_64 : decode cX12_begins 64 = .ok (.getfield 197, 3) := dec_2 oX12_begins (of180 _) 0 197 rfl rfl
theorem dX12_begins_67 : decode cX12_begins 67 = .ok (.imul, 1) := dec_0 oX12_begins (of104 _) rfl
theorem dX12_begins_68 : decode cX12_begins 68 = .ok (.iload_n 1, 1) := dec_0 oX12_begins (of27 _) rfl
theorem dX12_begins_69 : decode cX12_begins 69 = .ok (.iadd, 1) := dec_0 oX12_begins (of96 _) rfl
theorem dX12_begins_70 : decode cX12_begins 70 = .ok (.iaload, 1) := dec_0 oX12_begins (of46 _) rfl
theorem dX12_begins_71 : decode cX12_begins 71 = .ok (.iastore, 1) := dec_0 oX12_begins (of79 _) rfl
theorem dX12_begins_72 : decode cX12_begins 72 = .ok (.iinc 1 1, 3) := dec_ii oX12_begins (of132 _) 1 1 rfl (sg8p rfl) rfl
theorem dX12_begins_75 : decode cX12_begins 75 = .ok (.goto (-36), 3) := dec_s2 oX12_begins (of167 _) 255 220 rfl (sg16n (k := 36) rfl) rfl
theorem dX12_isThere_8 : decode cX12_isThere 8 = .ok (.aload_n 0, 1) := dec_0 oX12_isThere (of42 _) rfl
theorem dX12_isThere_9 : decode cX12_isThere 9 = .ok (.getfield 70, 3) := dec_2 oX12_isThere (of180 _) 0 70 rfl rfl
theorem dX12_isThere_12 : decode cX12_isThere 12 = .ok (.iconst 1, 1) := dec_0 oX12_isThere (of4 _) rfl
theorem dX12_isThere_13 : decode cX12_isThere 13 = .ok (.iload_n 1, 1) := dec_0 oX12_isThere (of27 _) rfl
theorem dX12_isThere_14 : decode cX12_isThere 14 = .ok (.iadd, 1) := dec_0 oX12_isThere (of96 _) rfl
theorem dX12_isThere_15 : decode cX12_isThere 15 = .ok (.iaload, 1) := dec_0 oX12_isThere (of46 _) rfl
theorem dX12_isThere_16 : decode cX12_isThere 16 = .ok (.ldc 239, 2) := dec_1 oX12_isThere (of18 _) 239 rfl rfl
theorem dX12_isThere_18 : decode cX12_isThere 18 = .ok (.if_icmp .eq 7, 3) := dec_s2 oX12_isThere (of159 _) 0 7 rfl (sg16p rfl) rfl
theorem dX12_isThere_21 : decode cX12_isThere 21 = .ok (.iconst 1, 1) := dec_0 oX12_isThere (of4 _) rfl
theorem dX12_isThere_22 : decode cX12_isThere 22 = .ok (.goto 4, 3) := dec_s2 oX12_isThere (of167 _) 0 4 rfl (sg16p rfl) rfl
theorem dX12_isWindow_23 : decode cX12_isWindow 23 = .ok (.iload_n 1, 1) := dec_0 oX12_isWindow (of27 _) rfl
theorem dX12_isWindow_24 : decode cX12_isWindow 24 = .ok (.istore_n 3, 1) := dec_0 oX12_isWindow (of62 _) rfl
theorem dX12_isWindow_25 : decode cX12_isWindow 25 = .ok (.iload_n 3, 1) := dec_0 oX12_isWindow (of29 _) rfl
theorem dX12_isWindow_26 : decode cX12_isWindow 26 = .ok (.iload_n 1, 1) := dec_0 oX12_isWindow (of27 _) rfl
theorem dX12_isWindow_27 : decode cX12_isWindow 27 = .ok (.iload_n 2, 1) := dec_0 oX12_isWindow (of28 _) rfl
theorem dX12_isWindow_28 : decode cX12_isWindow 28 = .ok (.iadd, 1) := dec_0 oX12_isWindow (of96 _) rfl
theorem dX12_isWindow_29 : decode cX12_isWindow 29 = .ok (.if_icmp .ge 24, 3) := dec_s2 oX12_isWindow (of162 _) 0 24 rfl (sg16p rfl) rfl
theorem dX12_isWindow_32 : decode cX12_isWindow 32 = .ok (.aload_n 0, 1) := dec_0 oX12_isWindow (of42 _) rfl
theorem dX12_isWindow_33 : decode cX12_isWindow 33 = .ok (.getfield 70, 3) := dec_2 oX12_isWindow (of180 _) 0 70 rfl rfl
theorem dX12_isWindow_36 : decode cX12_isWindow 36 = .ok (.iconst 1, 1) := dec_0 oX12_isWindow (of4 _) rfl
theorem dX12_isWindow_37 : decode cX12_isWindow 37 = .ok (.iload_n 3, 1) := dec_0 oX12_isWindow (of29 _) rfl
theorem dX12_isWindow_38 : decode cX12_isWindow 38 = .ok (.iadd, 1) := dec_0 oX12_isWindow (of96 _) rfl
theorem dX12_isWindow_39 : decode cX12_isWindow 39 = .ok (.iaload, 1) := dec_0 oX12_isWindow (of46 _) rfl
theorem dX12_isWindow_40 : decode cX12_isWindow 40 = .ok (.ldc 239, 2) := dec_1 oX12_isWindow (of18 _) 239 rfl rfl
theorem dX12_isWindow_42 : decode cX12_isWindow 42 = .ok (.if_icmp .ne 5, 3) := dec_s2 oX12_isWindow (of160 _) 0 5 rfl (sg16p rfl) rfl
theorem dX12_isWindow_45 : decode cX12_isWindow 45 = .ok (.iconst 0, 1) := dec_0 oX12_isWindow (of3 _) rfl
theorem dX12_isWindow_46 : decode cX12_isWindow 46 = .ok (.ireturn, 1) := dec_0 oX12_isWindow (of172 _) rfl
theorem dX12_isWindow_47 : decode cX12_isWindow 47 = .ok (.iinc 3 1, 3) := dec_ii oX12_isWindow (of132 _) 3 1 rfl (sg8p rfl) rfl
theorem dX12_isWindow_50 : decode cX12_isWindow 50 = .ok (.goto (-25), 3) := dec_s2 oX12_isWindow (of167 _) 255 231 rfl (sg16n (k := 25) rfl) rfl
theorem dX12_isWindow_53 : decode cX12_isWindow 53 = .ok (.iconst 1, 1) := dec_0 oX12_isWindow (of4 _) rfl
theorem dX12_isWindow_54 : decode cX12_isWindow 54 = .ok (.ireturn, 1) := dec_0 oX12_isWindow (of172 _) rfl
theorem dX12_wideOf_0 : decode cX12_wideOf 0 = .ok (.aload_n 0, 1) := dec_0 oX12_wideOf (of42 _) rfl
theorem dX12_wideOf_1 : decode cX12_wideOf 1 = .ok (.getfield 52, 3) := dec_2 oX12_wideOf (of180 _) 0 52 rfl rfl
theorem dX12_wideOf_4 : decode cX12_wideOf 4 = .ok (.iconst 5, 1) := dec_0 oX12_wideOf (of8 _) rfl
theorem dX12_wideOf_5 : decode cX12_wideOf 5 = .ok (.aload_n 0, 1) := dec_0 oX12_wideOf (of42 _) rfl
theorem dX12_wideOf_6 : decode cX12_wideOf 6 = .ok (.getfield 197, 3) := dec_2 oX12_wideOf (of180 _) 0 197 rfl rfl
theorem dX12_wideOf_9 : decode cX12_wideOf 9 = .ok (.imul, 1) := dec_0 oX12_wideOf (of104 _) rfl
theorem dX12_wideOf_10 : decode cX12_wideOf 10 = .ok (.iload_n 1, 1) := dec_0 oX12_wideOf (of27 _) rfl
theorem dX12_wideOf_11 : decode cX12_wideOf 11 = .ok (.iadd, 1) := dec_0 oX12_wideOf (of96 _) rfl
theorem dX12_wideOf_12 : decode cX12_wideOf 12 = .ok (.iaload, 1) := dec_0 oX12_wideOf (of46 _) rfl
theorem dX12_wideOf_13 : decode cX12_wideOf 13 = .ok (.ireturn, 1) := dec_0 oX12_wideOf (of172 _) rfl
theorem dX12_isOf_8 : decode cX12_isOf 8 = .ok (.aload_n 0, 1) := dec_0 oX12_isOf (of42 _) rfl
theorem dX12_isOf_9 : decode cX12_isOf 9 = .ok (.iload_n 2, 1) := dec_0 oX12_isOf (of28 _) rfl
theorem dX12_isOf_10 : decode cX12_isOf 10 = .ok (.aload_n 0, 1) := dec_0 oX12_isOf (of42 _) rfl
theorem dX12_isOf_11 : decode cX12_isOf 11 = .ok (.iload_n 1, 1) := dec_0 oX12_isOf (of27 _) rfl
theorem dX12_isOf_12 : decode cX12_isOf 12 = .ok (.invokevirtual 254, 3) := dec_2 oX12_isOf (of182 _) 0 254 rfl rfl
theorem dX12_isOf_15 : decode cX12_isOf 15 = .ok (.invokevirtual 257, 3) := dec_2 oX12_isOf (of182 _) 1 1 rfl rfl
theorem dX12_isOf_18 : decode cX12_isOf 18 = .ok (.ifCond .eq 7, 3) := dec_s2 oX12_isOf (of153 _) 0 7 rfl (sg16p rfl) rfl
theorem dX12_isOf_21 : decode cX12_isOf 21 = .ok (.iconst 1, 1) := dec_0 oX12_isOf (of4 _) rfl
theorem dX12_isOf_22 : decode cX12_isOf 22 = .ok (.goto 4, 3) := dec_s2 oX12_isOf (of167 _) 0 4 rfl (sg16p rfl) rfl
theorem dX12_levelsFirst_0 : decode cX12_levelsFirst 0 = .ok (.iconst 0, 1) := dec_0 oX12_levelsFirst (of3 _) rfl
theorem dX12_levelsFirst_1 : decode cX12_levelsFirst 1 = .ok (.istore_n 2, 1) := dec_0 oX12_levelsFirst (of61 _) rfl
theorem dX12_levelsFirst_2 : decode cX12_levelsFirst 2 = .ok (.aload_n 0, 1) := dec_0 oX12_levelsFirst (of42 _) rfl
theorem dX12_levelsFirst_3 : decode cX12_levelsFirst 3 = .ok (.getfield 76, 3) := dec_2 oX12_levelsFirst (of180 _) 0 76 rfl rfl
theorem dX12_levelsFirst_6 : decode cX12_levelsFirst 6 = .ok (.iconst 0, 1) := dec_0 oX12_levelsFirst (of3 _) rfl
theorem dX12_levelsFirst_7 : decode cX12_levelsFirst 7 = .ok (.iaload, 1) := dec_0 oX12_levelsFirst (of46 _) rfl
theorem dX12_levelsFirst_8 : decode cX12_levelsFirst 8 = .ok (.istore_n 3, 1) := dec_0 oX12_levelsFirst (of62 _) rfl
theorem dX12_levelsFirst_9 : decode cX12_levelsFirst 9 = .ok (.aload_n 0, 1) := dec_0 oX12_levelsFirst (of42 _) rfl
theorem dX12_levelsFirst_10 : decode cX12_levelsFirst 10 = .ok (.getfield 76, 3) := dec_2 oX12_levelsFirst (of180 _) 0 76 rfl rfl
theorem dX12_levelsFirst_13 : decode cX12_levelsFirst 13 = .ok (.iconst 0, 1) := dec_0 oX12_levelsFirst (of3 _) rfl
theorem dX12_levelsFirst_14 : decode cX12_levelsFirst 14 = .ok (.iaload, 1) := dec_0 oX12_levelsFirst (of46 _) rfl
theorem dX12_levelsFirst_15 : decode cX12_levelsFirst 15 = .ok (.istore 4, 2) := dec_1 oX12_levelsFirst (of54 _) 4 rfl rfl
theorem dX12_levelsFirst_17 : decode cX12_levelsFirst 17 = .ok (.aload_n 0, 1) := dec_0 oX12_levelsFirst (of42 _) rfl
theorem dX12_levelsFirst_18 : decode cX12_levelsFirst 18 = .ok (.getfield 76, 3) := dec_2 oX12_levelsFirst (of180 _) 0 76 rfl rfl
theorem dX12_levelsFirst_21 : decode cX12_levelsFirst 21 = .ok (.iconst 0, 1) := dec_0 oX12_levelsFirst (of3 _) rfl
theorem dX12_levelsFirst_22 : decode cX12_levelsFirst 22 = .ok (.iaload, 1) := dec_0 oX12_levelsFirst (of46 _) rfl
theorem dX12_levelsFirst_23 : decode cX12_levelsFirst 23 = .ok (.istore 5, 2) := dec_1 oX12_levelsFirst (of54 _) 5 rfl rfl
theorem dX12_levelsFirst_25 : decode cX12_levelsFirst 25 = .ok (.iconst 0, 1) := dec_0 oX12_levelsFirst (of3 _) rfl
theorem dX12_levelsFirst_26 : decode cX12_levelsFirst 26 = .ok (.istore 6, 2) := dec_1 oX12_levelsFirst (of54 _) 6 rfl rfl
theorem dX12_levelsFirst_28 : decode cX12_levelsFirst 28 = .ok (.iload 6, 2) := dec_1 oX12_levelsFirst (of21 _) 6 rfl rfl
theorem dX12_levelsFirst_30 : decode cX12_levelsFirst 30 = .ok (.iload_n 1, 1) := dec_0 oX12_levelsFirst (of27 _) rfl
theorem dX12_levelsFirst_31 : decode cX12_levelsFirst 31 = .ok (.if_icmp .ge 59, 3) := dec_s2 oX12_levelsFirst (of162 _) 0 59 rfl (sg16p rfl) rfl
theorem dX12_levelsFirst_34 : decode cX12_levelsFirst 34 = .ok (.iload_n 2, 1) := dec_0 oX12_levelsFirst (of28 _) rfl
theorem dX12_levelsFirst_35 : decode cX12_levelsFirst 35 = .ok (.aload_n 0, 1) := dec_0 oX12_levelsFirst (of42 _) rfl
theorem dX12_levelsFirst_36 : decode cX12_levelsFirst 36 = .ok (.getfield 76, 3) := dec_2 oX12_levelsFirst (of180 _) 0 76 rfl rfl
theorem dX12_levelsFirst_39 : decode cX12_levelsFirst 39 = .ok (.iload 6, 2) := dec_1 oX12_levelsFirst (of21 _) 6 rfl rfl
theorem dX12_levelsFirst_41 : decode cX12_levelsFirst 41 = .ok (.iaload, 1) := dec_0 oX12_levelsFirst (of46 _) rfl
theorem dX12_levelsFirst_42 : decode cX12_levelsFirst 42 = .ok (.iadd, 1) := dec_0 oX12_levelsFirst (of96 _) rfl
theorem dX12_levelsFirst_43 : decode cX12_levelsFirst 43 = .ok (.istore_n 2, 1) := dec_0 oX12_levelsFirst (of61 _) rfl
theorem dX12_levelsFirst_44 : decode cX12_levelsFirst 44 = .ok (.aload_n 0, 1) := dec_0 oX12_levelsFirst (of42 _) rfl
theorem dX12_levelsFirst_45 : decode cX12_levelsFirst 45 = .ok (.getfield 76, 3) := dec_2 oX12_levelsFirst (of180 _) 0 76 rfl rfl
theorem dX12_levelsFirst_48 : decode cX12_levelsFirst 48 = .ok (.iload 6, 2) := dec_1 oX12_levelsFirst (of21 _) 6 rfl rfl
theorem dX12_levelsFirst_50 : decode cX12_levelsFirst 50 = .ok (.iaload, 1) := dec_0 oX12_levelsFirst (of46 _) rfl
theorem dX12_levelsFirst_51 : decode cX12_levelsFirst 51 = .ok (.iload_n 3, 1) := dec_0 oX12_levelsFirst (of29 _) rfl
theorem dX12_levelsFirst_52 : decode cX12_levelsFirst 52 = .ok (.if_icmp .ge 11, 3) := dec_s2 oX12_levelsFirst (of162 _) 0 11 rfl (sg16p rfl) rfl
theorem dX12_levelsFirst_55 : decode cX12_levelsFirst 55 = .ok (.aload_n 0, 1) := dec_0 oX12_levelsFirst (of42 _) rfl
theorem dX12_levelsFirst_56 : decode cX12_levelsFirst 56 = .ok (.getfield 76, 3) := dec_2 oX12_levelsFirst (of180 _) 0 76 rfl rfl
theorem dX12_levelsFirst_59 : decode cX12_levelsFirst 59 = .ok (.iload 6, 2) := dec_1 oX12_levelsFirst (of21 _) 6 rfl rfl
theorem dX12_levelsFirst_61 : decode cX12_levelsFirst 61 = .ok (.iaload, 1) := dec_0 oX12_levelsFirst (of46 _) rfl
theorem dX12_levelsFirst_62 : decode cX12_levelsFirst 62 = .ok (.istore_n 3, 1) := dec_0 oX12_levelsFirst (of62 _) rfl
theorem dX12_levelsFirst_63 : decode cX12_levelsFirst 63 = .ok (.aload_n 0, 1) := dec_0 oX12_levelsFirst (of42 _) rfl
theorem dX12_levelsFirst_64 : decode cX12_levelsFirst 64 = .ok (.getfield 76, 3) := dec_2 oX12_levelsFirst (of180 _) 0 76 rfl rfl
theorem dX12_levelsFirst_67 : decode cX12_levelsFirst 67 = .ok (.iload 6, 2) := dec_1 oX12_levelsFirst (of21 _) 6 rfl rfl
theorem dX12_levelsFirst_69 : decode cX12_levelsFirst 69 = .ok (.iaload, 1) := dec_0 oX12_levelsFirst (of46 _) rfl
theorem dX12_levelsFirst_70 : decode cX12_levelsFirst 70 = .ok (.iload 4, 2) := dec_1 oX12_levelsFirst (of21 _) 4 rfl rfl
theorem dX12_levelsFirst_72 : decode cX12_levelsFirst 72 = .ok (.if_icmp .le 12, 3) := dec_s2 oX12_levelsFirst (of164 _) 0 12 rfl (sg16p rfl) rfl
theorem dX12_levelsFirst_75 : decode cX12_levelsFirst 75 = .ok (.aload_n 0, 1) := dec_0 oX12_levelsFirst (of42 _) rfl
theorem dX12_levelsFirst_76 : decode cX12_levelsFirst 76 = .ok (.getfield 76, 3) := dec_2 oX12_levelsFirst (of180 _) 0 76 rfl rfl
theorem dX12_levelsFirst_79 : decode cX12_levelsFirst 79 = .ok (.iload 6, 2) := dec_1 oX12_levelsFirst (of21 _) 6 rfl rfl
theorem dX12_levelsFirst_81 : decode cX12_levelsFirst 81 = .ok (.iaload, 1) := dec_0 oX12_levelsFirst (of46 _) rfl
theorem dX12_levelsFirst_82 : decode cX12_levelsFirst 82 = .ok (.istore 4, 2) := dec_1 oX12_levelsFirst (of54 _) 4 rfl rfl
theorem dX12_levelsFirst_84 : decode cX12_levelsFirst 84 = .ok (.iinc 6 1, 3) := dec_ii oX12_levelsFirst (of132 _) 6 1 rfl (sg8p rfl) rfl
theorem dX12_levelsFirst_87 : decode cX12_levelsFirst 87 = .ok (.goto (-59), 3) := dec_s2 oX12_levelsFirst (of167 _) 255 197 rfl (sg16n (k := 59) rfl) rfl
theorem dX12_levelsFirst_90 : decode cX12_levelsFirst 90 = .ok (.iload_n 2, 1) := dec_0 oX12_levelsFirst (of28 _) rfl
theorem dX12_levelsFirst_91 : decode cX12_levelsFirst 91 = .ok (.iload_n 1, 1) := dec_0 oX12_levelsFirst (of27 _) rfl
theorem dX12_levelsFirst_92 : decode cX12_levelsFirst 92 = .ok (.invokestatic 261, 3) := dec_2 oX12_levelsFirst (of184 _) 1 5 rfl rfl
theorem dX12_levelsFirst_95 : decode cX12_levelsFirst 95 = .ok (.istore 6, 2) := dec_1 oX12_levelsFirst (of54 _) 6 rfl rfl
theorem dX12_levelsFirst_97 : decode cX12_levelsFirst 97 = .ok (.iconst 0, 1) := dec_0 oX12_levelsFirst (of3 _) rfl
theorem dX12_levelsFirst_98 : decode cX12_levelsFirst 98 = .ok (.istore 7, 2) := dec_1 oX12_levelsFirst (of54 _) 7 rfl rfl
theorem dX12_levelsFirst_100 : decode cX12_levelsFirst 100 = .ok (.iload 7, 2) := dec_1 oX12_levelsFirst (of21 _) 7 rfl rfl
theorem dX12_levelsFirst_102 : decode cX12_levelsFirst 102 = .ok (.iload_n 1, 1) := dec_0 oX12_levelsFirst (of27 _) rfl
theorem dX12_levelsFirst_103 : decode cX12_levelsFirst 103 = .ok (.if_icmp .ge 111, 3) := dec_s2 oX12_levelsFirst (of162 _) 0 111 rfl (sg16p rfl) rfl
theorem dX12_levelsFirst_106 : decode cX12_levelsFirst 106 = .ok (.aload_n 0, 1) := dec_0 oX12_levelsFirst (of42 _) rfl
theorem dX12_levelsFirst_107 : decode cX12_levelsFirst 107 = .ok (.getfield 73, 3) := dec_2 oX12_levelsFirst (of180 _) 0 73 rfl rfl
theorem dX12_levelsFirst_110 : decode cX12_levelsFirst 110 = .ok (.sipush 162, 3) := dec_s2 oX12_levelsFirst (of17 _) 0 162 rfl (sg16p rfl) rfl
theorem dX12_levelsFirst_113 : decode cX12_levelsFirst 113 = .ok (.iaload, 1) := dec_0 oX12_levelsFirst (of46 _) rfl
theorem dX12_levelsFirst_114 : decode cX12_levelsFirst 114 = .ok (.tableswitch 59 0 2 #[26, 29, 44], 26) := by decide +kernel
theorem dX12_levelsFirst_140 : decode cX12_levelsFirst 140 = .ok (.goto 68, 3) := dec_s2 oX12_levelsFirst (of167 _) 0 68 rfl (sg16p rfl) rfl
theorem dX12_levelsFirst_143 : decode cX12_levelsFirst 143 = .ok (.aload_n 0, 1) := dec_0 oX12_levelsFirst (of42 _) rfl
theorem dX12_levelsFirst_144 : decode cX12_levelsFirst 144 = .ok (.getfield 76, 3) := dec_2 oX12_levelsFirst (of180 _) 0 76 rfl rfl
theorem dX12_levelsFirst_147 : decode cX12_levelsFirst 147 = .ok (.iload 7, 2) := dec_1 oX12_levelsFirst (of21 _) 7 rfl rfl
theorem dX12_levelsFirst_149 : decode cX12_levelsFirst 149 = .ok (.dup2, 1) := dec_0 oX12_levelsFirst (of92 _) rfl
theorem dX12_levelsFirst_150 : decode cX12_levelsFirst 150 = .ok (.iaload, 1) := dec_0 oX12_levelsFirst (of46 _) rfl
theorem dX12_levelsFirst_151 : decode cX12_levelsFirst 151 = .ok (.iload 6, 2) := dec_1 oX12_levelsFirst (of21 _) 6 rfl rfl
theorem dX12_levelsFirst_153 : decode cX12_levelsFirst 153 = .ok (.isub, 1) := dec_0 oX12_levelsFirst (of100 _) rfl
theorem dX12_levelsFirst_154 : decode cX12_levelsFirst 154 = .ok (.iastore, 1) := dec_0 oX12_levelsFirst (of79 _) rfl
theorem dX12_levelsFirst_155 : decode cX12_levelsFirst 155 = .ok (.goto 53, 3) := dec_s2 oX12_levelsFirst (of167 _) 0 53 rfl (sg16p rfl) rfl
theorem dX12_levelsFirst_158 : decode cX12_levelsFirst 158 = .ok (.aload_n 0, 1) := dec_0 oX12_levelsFirst (of42 _) rfl
theorem dX12_levelsFirst_159 : decode cX12_levelsFirst 159 = .ok (.getfield 76, 3) := dec_2 oX12_levelsFirst (of180 _) 0 76 rfl rfl
theorem dX12_levelsFirst_162 : decode cX12_levelsFirst 162 = .ok (.iload 7, 2) := dec_1 oX12_levelsFirst (of21 _) 7 rfl rfl
theorem dX12_levelsFirst_164 : decode cX12_levelsFirst 164 = .ok (.dup2, 1) := dec_0 oX12_levelsFirst (of92 _) rfl
theorem dX12_levelsFirst_165 : decode cX12_levelsFirst 165 = .ok (.iaload, 1) := dec_0 oX12_levelsFirst (of46 _) rfl
theorem dX12_levelsFirst_166 : decode cX12_levelsFirst 166 = .ok (.iload 5, 2) := dec_1 oX12_levelsFirst (of21 _) 5 rfl rfl
theorem dX12_levelsFirst_168 : decode cX12_levelsFirst 168 = .ok (.isub, 1) := dec_0 oX12_levelsFirst (of100 _) rfl
theorem dX12_levelsFirst_169 : decode cX12_levelsFirst 169 = .ok (.iastore, 1) := dec_0 oX12_levelsFirst (of79 _) rfl
theorem dX12_levelsFirst_170 : decode cX12_levelsFirst 170 = .ok (.goto 38, 3) := dec_s2 oX12_levelsFirst (of167 _) 0 38 rfl (sg16p rfl) rfl
theorem dX12_levelsFirst_173 : decode cX12_levelsFirst 173 = .ok (.aload_n 0, 1) := dec_0 oX12_levelsFirst (of42 _) rfl
theorem dX12_levelsFirst_174 : decode cX12_levelsFirst 174 = .ok (.getfield 76, 3) := dec_2 oX12_levelsFirst (of180 _) 0 76 rfl rfl
theorem dX12_levelsFirst_177 : decode cX12_levelsFirst 177 = .ok (.iload 7, 2) := dec_1 oX12_levelsFirst (of21 _) 7 rfl rfl
theorem dX12_levelsFirst_179 : decode cX12_levelsFirst 179 = .ok (.iload 4, 2) := dec_1 oX12_levelsFirst (of21 _) 4 rfl rfl
theorem dX12_levelsFirst_181 : decode cX12_levelsFirst 181 = .ok (.iload_n 3, 1) := dec_0 oX12_levelsFirst (of29 _) rfl
theorem dX12_levelsFirst_182 : decode cX12_levelsFirst 182 = .ok (.if_icmp .ne 7, 3) := dec_s2 oX12_levelsFirst (of160 _) 0 7 rfl (sg16p rfl) rfl
theorem dX12_levelsFirst_185 : decode cX12_levelsFirst 185 = .ok (.iconst 0, 1) := dec_0 oX12_levelsFirst (of3 _) rfl
theorem dX12_levelsFirst_186 : decode cX12_levelsFirst 186 = .ok (.goto 21, 3) := dec_s2 oX12_levelsFirst (of167 _) 0 21 rfl (sg16p rfl) rfl
theorem dX12_levelsFirst_189 : decode cX12_levelsFirst 189 = .ok (.sipush 1000, 3) := dec_s2 oX12_levelsFirst (of17 _) 3 232 rfl (sg16p rfl) rfl
theorem dX12_levelsFirst_192 : decode cX12_levelsFirst 192 = .ok (.aload_n 0, 1) := dec_0 oX12_levelsFirst (of42 _) rfl
theorem dX12_levelsFirst_193 : decode cX12_levelsFirst 193 = .ok (.getfield 76, 3) := dec_2 oX12_levelsFirst (of180 _) 0 76 rfl rfl
theorem dX12_levelsFirst_196 : decode cX12_levelsFirst 196 = .ok (.iload 7, 2) := dec_1 oX12_levelsFirst (of21 _) 7 rfl rfl
theorem dX12_levelsFirst_198 : decode cX12_levelsFirst 198 = .ok (.iaload, 1) := dec_0 oX12_levelsFirst (of46 _) rfl
theorem dX12_levelsFirst_199 : decode cX12_levelsFirst 199 = .ok (.iload_n 3, 1) := dec_0 oX12_levelsFirst (of29 _) rfl
theorem dX12_levelsFirst_200 : decode cX12_levelsFirst 200 = .ok (.isub, 1) := dec_0 oX12_levelsFirst (of100 _) rfl
theorem dX12_levelsFirst_201 : decode cX12_levelsFirst 201 = .ok (.imul, 1) := dec_0 oX12_levelsFirst (of104 _) rfl
theorem dX12_levelsFirst_202 : decode cX12_levelsFirst 202 = .ok (.iload 4, 2) := dec_1 oX12_levelsFirst (of21 _) 4 rfl rfl
theorem dX12_levelsFirst_204 : decode cX12_levelsFirst 204 = .ok (.iload_n 3, 1) := dec_0 oX12_levelsFirst (of29 _) rfl
theorem dX12_levelsFirst_205 : decode cX12_levelsFirst 205 = .ok (.isub, 1) := dec_0 oX12_levelsFirst (of100 _) rfl
theorem dX12_levelsFirst_206 : decode cX12_levelsFirst 206 = .ok (.idiv, 1) := dec_0 oX12_levelsFirst (of108 _) rfl
theorem dX12_levelsFirst_207 : decode cX12_levelsFirst 207 = .ok (.iastore, 1) := dec_0 oX12_levelsFirst (of79 _) rfl
theorem dX12_levelsFirst_208 : decode cX12_levelsFirst 208 = .ok (.iinc 7 1, 3) := dec_ii oX12_levelsFirst (of132 _) 7 1 rfl (sg8p rfl) rfl
theorem dX12_levelsFirst_211 : decode cX12_levelsFirst 211 = .ok (.goto (-111), 3) := dec_s2 oX12_levelsFirst (of167 _) 255 145 rfl (sg16n (k := 111) rfl) rfl
theorem dX12_levelsFirst_214 : decode cX12_levelsFirst 214 = .ok (.return_, 1) := dec_0 oX12_levelsFirst (of177 _) rfl
theorem dX12_changesBoth_0 : decode cX12_changesBoth 0 = .ok (.iconst 0, 1) := dec_0 oX12_changesBoth (of3 _) rfl
theorem dX12_changesBoth_1 : decode cX12_changesBoth 1 = .ok (.istore_n 2, 1) := dec_0 oX12_changesBoth (of61 _) rfl
theorem dX12_changesBoth_2 : decode cX12_changesBoth 2 = .ok (.iload_n 2, 1) := dec_0 oX12_changesBoth (of28 _) rfl
theorem dX12_changesBoth_3 : decode cX12_changesBoth 3 = .ok (.iload_n 1, 1) := dec_0 oX12_changesBoth (of27 _) rfl
theorem dX12_changesBoth_4 : decode cX12_changesBoth 4 = .ok (.if_icmp .ge 35, 3) := dec_s2 oX12_changesBoth (of162 _) 0 35 rfl (sg16p rfl) rfl
theorem dX12_changesBoth_7 : decode cX12_changesBoth 7 = .ok (.aload_n 0, 1) := dec_0 oX12_changesBoth (of42 _) rfl
theorem dX12_changesBoth_8 : decode cX12_changesBoth 8 = .ok (.getfield 76, 3) := dec_2 oX12_changesBoth (of180 _) 0 76 rfl rfl
theorem dX12_changesBoth_11 : decode cX12_changesBoth 11 = .ok (.iload_n 2, 1) := dec_0 oX12_changesBoth (of28 _) rfl
theorem dX12_changesBoth_12 : decode cX12_changesBoth 12 = .ok (.iaload, 1) := dec_0 oX12_changesBoth (of46 _) rfl
theorem dX12_changesBoth_13 : decode cX12_changesBoth 13 = .ok (.istore_n 3, 1) := dec_0 oX12_changesBoth (of62 _) rfl
theorem dX12_changesBoth_14 : decode cX12_changesBoth 14 = .ok (.aload_n 0, 1) := dec_0 oX12_changesBoth (of42 _) rfl
theorem dX12_changesBoth_15 : decode cX12_changesBoth 15 = .ok (.getfield 76, 3) := dec_2 oX12_changesBoth (of180 _) 0 76 rfl rfl
theorem dX12_changesBoth_18 : decode cX12_changesBoth 18 = .ok (.iload_n 2, 1) := dec_0 oX12_changesBoth (of28 _) rfl
theorem dX12_changesBoth_19 : decode cX12_changesBoth 19 = .ok (.aload_n 0, 1) := dec_0 oX12_changesBoth (of42 _) rfl
theorem dX12_changesBoth_20 : decode cX12_changesBoth 20 = .ok (.getfield 79, 3) := dec_2 oX12_changesBoth (of180 _) 0 79 rfl rfl
theorem dX12_changesBoth_23 : decode cX12_changesBoth 23 = .ok (.iload_n 2, 1) := dec_0 oX12_changesBoth (of28 _) rfl
theorem dX12_changesBoth_24 : decode cX12_changesBoth 24 = .ok (.iaload, 1) := dec_0 oX12_changesBoth (of46 _) rfl
theorem dX12_changesBoth_25 : decode cX12_changesBoth 25 = .ok (.iastore, 1) := dec_0 oX12_changesBoth (of79 _) rfl
theorem dX12_changesBoth_26 : decode cX12_changesBoth 26 = .ok (.aload_n 0, 1) := dec_0 oX12_changesBoth (of42 _) rfl
theorem dX12_changesBoth_27 : decode cX12_changesBoth 27 = .ok (.getfield 79, 3) := dec_2 oX12_changesBoth (of180 _) 0 79 rfl rfl
theorem dX12_changesBoth_30 : decode cX12_changesBoth 30 = .ok (.iload_n 2, 1) := dec_0 oX12_changesBoth (of28 _) rfl
theorem dX12_changesBoth_31 : decode cX12_changesBoth 31 = .ok (.iload_n 3, 1) := dec_0 oX12_changesBoth (of29 _) rfl
theorem dX12_changesBoth_32 : decode cX12_changesBoth 32 = .ok (.iastore, 1) := dec_0 oX12_changesBoth (of79 _) rfl
theorem dX12_changesBoth_33 : decode cX12_changesBoth 33 = .ok (.iinc 2 1, 3) := dec_ii oX12_changesBoth (of132 _) 2 1 rfl (sg8p rfl) rfl
theorem dX12_changesBoth_36 : decode cX12_changesBoth 36 = .ok (.goto (-34), 3) := dec_s2 oX12_changesBoth (of167 _) 255 222 rfl (sg16n (k := 34) rfl) rfl
theorem dX12_changesBoth_39 : decode cX12_changesBoth 39 = .ok (.return_, 1) := dec_0 oX12_changesBoth (of177 _) rfl
theorem dX12_laysQuery_0 : decode cX12_laysQuery 0 = .ok (.iconst 0, 1) := dec_0 oX12_laysQuery (of3 _) rfl
theorem dX12_laysQuery_1 : decode cX12_laysQuery 1 = .ok (.istore_n 2, 1) := dec_0 oX12_laysQuery (of61 _) rfl
theorem dX12_laysQuery_2 : decode cX12_laysQuery 2 = .ok (.iload_n 2, 1) := dec_0 oX12_laysQuery (of28 _) rfl
theorem dX12_laysQuery_3 : decode cX12_laysQuery 3 = .ok (.aload_n 0, 1) := dec_0 oX12_laysQuery (of42 _) rfl
theorem dX12_laysQuery_4 : decode cX12_laysQuery 4 = .ok (.iload_n 1, 1) := dec_0 oX12_laysQuery (of27 _) rfl
theorem dX12_laysQuery_5 : decode cX12_laysQuery 5 = .ok (.invokevirtual 254, 3) := dec_2 oX12_laysQuery (of182 _) 0 254 rfl rfl
theorem dX12_laysQuery_8 : decode cX12_laysQuery 8 = .ok (.if_icmp .ge 33, 3) := dec_s2 oX12_laysQuery (of162 _) 0 33 rfl (sg16p rfl) rfl
theorem dX12_laysQuery_11 : decode cX12_laysQuery 11 = .ok (.aload_n 0, 1) := dec_0 oX12_laysQuery (of42 _) rfl
theorem dX12_laysQuery_12 : decode cX12_laysQuery 12 = .ok (.getfield 76, 3) := dec_2 oX12_laysQuery (of180 _) 0 76 rfl rfl
theorem dX12_laysQuery_15 : decode cX12_laysQuery 15 = .ok (.iload_n 2, 1) := dec_0 oX12_laysQuery (of28 _) rfl
theorem dX12_laysQuery_16 : decode cX12_laysQuery 16 = .ok (.aload_n 0, 1) := dec_0 oX12_laysQuery (of42 _) rfl
theorem dX12_laysQuery_17 : decode cX12_laysQuery 17 = .ok (.getfield 55, 3) := dec_2 oX12_laysQuery (of180 _) 0 55 rfl rfl
theorem dX12_laysQuery_20 : decode cX12_laysQuery 20 = .ok (.bipush 16, 2) := dec_s1 oX12_laysQuery (of16 _) 16 rfl (sg8p rfl) rfl
theorem dX12_laysQuery_22 : decode cX12_laysQuery 22 = .ok (.iconst 5, 1) := dec_0 oX12_laysQuery (of8 _) rfl
theorem dX12_laysQuery_23 : decode cX12_laysQuery 23 = .ok (.aload_n 0, 1) := dec_0 oX12_laysQuery (of42 _) rfl
theorem dX12_laysQuery_24 : decode cX12_laysQuery 24 = .ok (.getfield 197, 3) := dec_2 oX12_laysQuery (of180 _) 0 197 rfl rfl
theorem dX12_laysQuery_27 : decode cX12_laysQuery 27 = .ok (.imul, 1) := dec_0 oX12_laysQuery (of104 _) rfl
theorem dX12_laysQuery_28 : decode cX12_laysQuery 28 = .ok (.iload_n 1, 1) := dec_0 oX12_laysQuery (of27 _) rfl
theorem dX12_laysQuery_29 : decode cX12_laysQuery 29 = .ok (.iadd, 1) := dec_0 oX12_laysQuery (of96 _) rfl
theorem dX12_laysQuery_30 : decode cX12_laysQuery 30 = .ok (.imul, 1) := dec_0 oX12_laysQuery (of104 _) rfl
theorem dX12_laysQuery_31 : decode cX12_laysQuery 31 = .ok (.iload_n 2, 1) := dec_0 oX12_laysQuery (of28 _) rfl
theorem dX12_laysQuery_32 : decode cX12_laysQuery 32 = .ok (.iadd, 1) := dec_0 oX12_laysQuery (of96 _) rfl
theorem dX12_laysQuery_33 : decode cX12_laysQuery 33 = .ok (.iaload, 1) := dec_0 oX12_laysQuery (of46 _) rfl
theorem dX12_laysQuery_34 : decode cX12_laysQuery 34 = .ok (.iastore, 1) := dec_0 oX12_laysQuery (of79 _) rfl
theorem dX12_laysQuery_35 : decode cX12_laysQuery 35 = .ok (.iinc 2 1, 3) := dec_ii oX12_laysQuery (of132 _) 2 1 rfl (sg8p rfl) rfl
theorem dX12_laysQuery_38 : decode cX12_laysQuery 38 = .ok (.goto (-36), 3) := dec_s2 oX12_laysQuery (of167 _) 255 220 rfl (sg16n (k := 36) rfl) rfl
theorem dX12_laysQuery_41 : decode cX12_laysQuery 41 = .ok (.aload_n 0, 1) := dec_0 oX12_laysQuery (of42 _) rfl
theorem dX12_laysQuery_42 : decode cX12_laysQuery 42 = .ok (.aload_n 0, 1) := dec_0 oX12_laysQuery (of42 _) rfl
theorem dX12_laysQuery_43 : decode cX12_laysQuery 43 = .ok (.iload_n 1, 1) := dec_0 oX12_laysQuery (of27 _) rfl
theorem dX12_laysQuery_44 : decode cX12_laysQuery 44 = .ok (.invokevirtual 254, 3) := dec_2 oX12_laysQuery (of182 _) 0 254 rfl rfl
theorem dX12_laysQuery_47 : decode cX12_laysQuery 47 = .ok (.invokevirtual 264, 3) := dec_2 oX12_laysQuery (of182 _) 1 8 rfl rfl
theorem dX12_laysQuery_50 : decode cX12_laysQuery 50 = .ok (.return_, 1) := dec_0 oX12_laysQuery (of177 _) rfl
theorem dX12_laysWindow_0 : decode cX12_laysWindow 0 = .ok (.iconst 0, 1) := dec_0 oX12_laysWindow (of3 _) rfl
theorem dX12_laysWindow_1 : decode cX12_laysWindow 1 = .ok (.istore_n 3, 1) := dec_0 oX12_laysWindow (of62 _) rfl
theorem dX12_laysWindow_2 : decode cX12_laysWindow 2 = .ok (.iload_n 3, 1) := dec_0 oX12_laysWindow (of29 _) rfl
theorem dX12_laysWindow_3 : decode cX12_laysWindow 3 = .ok (.iload_n 2, 1) := dec_0 oX12_laysWindow (of28 _) rfl
theorem dX12_laysWindow_4 : decode cX12_laysWindow 4 = .ok (.if_icmp .ge 25, 3) := dec_s2 oX12_laysWindow (of162 _) 0 25 rfl (sg16p rfl) rfl
theorem dX12_laysWindow_7 : decode cX12_laysWindow 7 = .ok (.aload_n 0, 1) := dec_0 oX12_laysWindow (of42 _) rfl
theorem dX12_laysWindow_8 : decode cX12_laysWindow 8 = .ok (.getfield 76, 3) := dec_2 oX12_laysWindow (of180 _) 0 76 rfl rfl
theorem dX12_laysWindow_11 : decode cX12_laysWindow 11 = .ok (.iload_n 3, 1) := dec_0 oX12_laysWindow (of29 _) rfl
theorem dX12_laysWindow_12 : decode cX12_laysWindow 12 = .ok (.aload_n 0, 1) := dec_0 oX12_laysWindow (of42 _) rfl
theorem dX12_laysWindow_13 : decode cX12_laysWindow 13 = .ok (.getfield 73, 3) := dec_2 oX12_laysWindow (of180 _) 0 73 rfl rfl
theorem dX12_laysWindow_16 : decode cX12_laysWindow 16 = .ok (.iconst 1, 1) := dec_0 oX12_laysWindow (of4 _) rfl
theorem dX12_laysWindow_17 : decode cX12_laysWindow 17 = .ok (.iload_n 1, 1) := dec_0 oX12_laysWindow (of27 _) rfl
theorem dX12_laysWindow_18 : decode cX12_laysWindow 18 = .ok (.iadd, 1) := dec_0 oX12_laysWindow (of96 _) rfl
theorem dX12_laysWindow_19 : decode cX12_laysWindow 19 = .ok (.iload_n 3, 1) := dec_0 oX12_laysWindow (of29 _) rfl
theorem dX12_laysWindow_20 : decode cX12_laysWindow 20 = .ok (.iadd, 1) := dec_0 oX12_laysWindow (of96 _) rfl
theorem dX12_laysWindow_21 : decode cX12_laysWindow 21 = .ok (.iaload, 1) := dec_0 oX12_laysWindow (of46 _) rfl
theorem dX12_laysWindow_22 : decode cX12_laysWindow 22 = .ok (.iastore, 1) := dec_0 oX12_laysWindow (of79 _) rfl
theorem dX12_laysWindow_23 : decode cX12_laysWindow 23 = .ok (.iinc 3 1, 3) := dec_ii oX12_laysWindow (of132 _) 3 1 rfl (sg8p rfl) rfl
theorem dX12_laysWindow_26 : decode cX12_laysWindow 26 = .ok (.goto (-24), 3) := dec_s2 oX12_laysWindow (of167 _) 255 232 rfl (sg16n (k := 24) rfl) rfl
theorem dX12_laysWindow_29 : decode cX12_laysWindow 29 = .ok (.aload_n 0, 1) := dec_0 oX12_laysWindow (of42 _) rfl
theorem dX12_laysWindow_30 : decode cX12_laysWindow 30 = .ok (.iload_n 2, 1) := dec_0 oX12_laysWindow (of28 _) rfl
theorem dX12_laysWindow_31 : decode cX12_laysWindow 31 = .ok (.invokevirtual 264, 3) := dec_2 oX12_laysWindow (of182 _) 1 8 rfl rfl
theorem dX12_laysWindow_34 : decode cX12_laysWindow 34 = .ok (.return_, 1) := dec_0 oX12_laysWindow (of177 _) rfl
theorem dX12_laysBoth_0 : decode cX12_laysBoth 0 = .ok (.aload_n 0, 1) := dec_0 oX12_laysBoth (of42 _) rfl
theorem dX12_laysBoth_1 : decode cX12_laysBoth 1 = .ok (.aload_n 0, 1) := dec_0 oX12_laysBoth (of42 _) rfl
theorem dX12_laysBoth_2 : decode cX12_laysBoth 2 = .ok (.iload_n 1, 1) := dec_0 oX12_laysBoth (of27 _) rfl
theorem dX12_laysBoth_3 : decode cX12_laysBoth 3 = .ok (.invokevirtual 254, 3) := dec_2 oX12_laysBoth (of182 _) 0 254 rfl rfl
theorem dX12_laysBoth_6 : decode cX12_laysBoth 6 = .ok (.putfield 267, 3) := dec_2 oX12_laysBoth (of181 _) 1 11 rfl rfl
theorem dX12_laysBoth_9 : decode cX12_laysBoth 9 = .ok (.aload_n 0, 1) := dec_0 oX12_laysBoth (of42 _) rfl
theorem dX12_laysBoth_10 : decode cX12_laysBoth 10 = .ok (.iload_n 2, 1) := dec_0 oX12_laysBoth (of28 _) rfl
theorem dX12_laysBoth_11 : decode cX12_laysBoth 11 = .ok (.aload_n 0, 1) := dec_0 oX12_laysBoth (of42 _) rfl
theorem dX12_laysBoth_12 : decode cX12_laysBoth 12 = .ok (.getfield 267, 3) := dec_2 oX12_laysBoth (of180 _) 1 11 rfl rfl
theorem dX12_laysBoth_15 : decode cX12_laysBoth 15 = .ok (.invokevirtual 270, 3) := dec_2 oX12_laysBoth (of182 _) 1 14 rfl rfl
theorem dX12_laysBoth_18 : decode cX12_laysBoth 18 = .ok (.aload_n 0, 1) := dec_0 oX12_laysBoth (of42 _) rfl
theorem dX12_laysBoth_19 : decode cX12_laysBoth 19 = .ok (.aload_n 0, 1) := dec_0 oX12_laysBoth (of42 _) rfl
theorem dX12_laysBoth_20 : decode cX12_laysBoth 20 = .ok (.getfield 267, 3) := dec_2 oX12_laysBoth (of180 _) 1 11 rfl rfl
theorem dX12_laysBoth_23 : decode cX12_laysBoth 23 = .ok (.invokevirtual 273, 3) := dec_2 oX12_laysBoth (of182 _) 1 17 rfl rfl
theorem dX12_laysBoth_26 : decode cX12_laysBoth 26 = .ok (.aload_n 0, 1) := dec_0 oX12_laysBoth (of42 _) rfl
theorem dX12_laysBoth_27 : decode cX12_laysBoth 27 = .ok (.iload_n 1, 1) := dec_0 oX12_laysBoth (of27 _) rfl
theorem dX12_laysBoth_28 : decode cX12_laysBoth 28 = .ok (.invokevirtual 276, 3) := dec_2 oX12_laysBoth (of182 _) 1 20 rfl rfl
theorem dX12_laysBoth_31 : decode cX12_laysBoth 31 = .ok (.return_, 1) := dec_0 oX12_laysBoth (of177 _) rfl
theorem dX12_laysWindows_0 : decode cX12_laysWindows 0 = .ok (.aload_n 0, 1) := dec_0 oX12_laysWindows (of42 _) rfl
theorem dX12_laysWindows_1 : decode cX12_laysWindows 1 = .ok (.iload_n 3, 1) := dec_0 oX12_laysWindows (of29 _) rfl
theorem dX12_laysWindows_2 : decode cX12_laysWindows 2 = .ok (.putfield 267, 3) := dec_2 oX12_laysWindows (of181 _) 1 11 rfl rfl
theorem dX12_laysWindows_5 : decode cX12_laysWindows 5 = .ok (.aload_n 0, 1) := dec_0 oX12_laysWindows (of42 _) rfl
theorem dX12_laysWindows_6 : decode cX12_laysWindows 6 = .ok (.iload_n 2, 1) := dec_0 oX12_laysWindows (of28 _) rfl
theorem dX12_laysWindows_7 : decode cX12_laysWindows 7 = .ok (.iload_n 3, 1) := dec_0 oX12_laysWindows (of29 _) rfl
theorem dX12_laysWindows_8 : decode cX12_laysWindows 8 = .ok (.invokevirtual 270, 3) := dec_2 oX12_laysWindows (of182 _) 1 14 rfl rfl
theorem dX12_laysWindows_11 : decode cX12_laysWindows 11 = .ok (.aload_n 0, 1) := dec_0 oX12_laysWindows (of42 _) rfl
theorem dX12_laysWindows_12 : decode cX12_laysWindows 12 = .ok (.iload_n 3, 1) := dec_0 oX12_laysWindows (of29 _) rfl
theorem dX12_laysWindows_13 : decode cX12_laysWindows 13 = .ok (.invokevirtual 273, 3) := dec_2 oX12_laysWindows (of182 _) 1 17 rfl rfl
theorem dX12_laysWindows_16 : decode cX12_laysWindows 16 = .ok (.aload_n 0, 1) := dec_0 oX12_laysWindows (of42 _) rfl
theorem dX12_laysWindows_17 : decode cX12_laysWindows 17 = .ok (.iload_n 1, 1) := dec_0 oX12_laysWindows (of27 _) rfl
theorem dX12_laysWindows_18 : decode cX12_laysWindows 18 = .ok (.iload_n 3, 1) := dec_0 oX12_laysWindows (of29 _) rfl
theorem dX12_laysWindows_19 : decode cX12_laysWindows 19 = .ok (.invokevirtual 270, 3) := dec_2 oX12_laysWindows (of182 _) 1 14 rfl rfl
theorem dX12_laysWindows_22 : decode cX12_laysWindows 22 = .ok (.return_, 1) := dec_0 oX12_laysWindows (of177 _) rfl
theorem dX12_costOf_0 : decode cX12_costOf 0 = .ok (.iload_n 1, 1) := dec_0 oX12_costOf (of27 _) rfl
theorem dX12_costOf_1 : decode cX12_costOf 1 = .ok (.iload_n 2, 1) := dec_0 oX12_costOf (of28 _) rfl
theorem dX12_costOf_2 : decode cX12_costOf 2 = .ok (.if_icmp .ge 9, 3) := dec_s2 oX12_costOf (of162 _) 0 9 rfl (sg16p rfl) rfl
theorem dX12_costOf_5 : decode cX12_costOf 5 = .ok (.iload_n 2, 1) := dec_0 oX12_costOf (of28 _) rfl
theorem dX12_costOf_6 : decode cX12_costOf 6 = .ok (.iload_n 1, 1) := dec_0 oX12_costOf (of27 _) rfl
theorem dX12_costOf_7 : decode cX12_costOf 7 = .ok (.isub, 1) := dec_0 oX12_costOf (of100 _) rfl
theorem dX12_costOf_8 : decode cX12_costOf 8 = .ok (.goto 6, 3) := dec_s2 oX12_costOf (of167 _) 0 6 rfl (sg16p rfl) rfl
theorem dX12_costOf_11 : decode cX12_costOf 11 = .ok (.iload_n 1, 1) := dec_0 oX12_costOf (of27 _) rfl
theorem dX12_costOf_12 : decode cX12_costOf 12 = .ok (.iload_n 2, 1) := dec_0 oX12_costOf (of28 _) rfl
theorem dX12_costOf_13 : decode cX12_costOf 13 = .ok (.isub, 1) := dec_0 oX12_costOf (of100 _) rfl
theorem dX12_costOf_14 : decode cX12_costOf 14 = .ok (.istore_n 3, 1) := dec_0 oX12_costOf (of62 _) rfl
theorem dX12_costOf_15 : decode cX12_costOf 15 = .ok (.aload_n 0, 1) := dec_0 oX12_costOf (of42 _) rfl
theorem dX12_costOf_16 : decode cX12_costOf 16 = .ok (.getfield 73, 3) := dec_2 oX12_costOf (of180 _) 0 73 rfl rfl
theorem dX12_costOf_19 : decode cX12_costOf 19 = .ok (.sipush 163, 3) := dec_s2 oX12_costOf (of17 _) 0 163 rfl (sg16p rfl) rfl
theorem dX12_costOf_22 : decode cX12_costOf 22 = .ok (.iaload, 1) := dec_0 oX12_costOf (of46 _) rfl
theorem dX12_costOf_23 : decode cX12_costOf 23 = .ok (.ifCond .ne 7, 3) := dec_s2 oX12_costOf (of154 _) 0 7 rfl (sg16p rfl) rfl
theorem dX12_costOf_26 : decode cX12_costOf 26 = .ok (.iload_n 3, 1) := dec_0 oX12_costOf (of29 _) rfl
theorem dX12_costOf_27 : decode cX12_costOf 27 = .ok (.goto 6, 3) := dec_s2 oX12_costOf (of167 _) 0 6 rfl (sg16p rfl) rfl
theorem dX12_costOf_30 : decode cX12_costOf 30 = .ok (.iload_n 3, 1) := dec_0 oX12_costOf (of29 _) rfl
theorem dX12_costOf_31 : decode cX12_costOf 31 = .ok (.iload_n 3, 1) := dec_0 oX12_costOf (of29 _) rfl
theorem dX12_costOf_32 : decode cX12_costOf 32 = .ok (.imul, 1) := dec_0 oX12_costOf (of104 _) rfl
theorem dX12_costOf_33 : decode cX12_costOf 33 = .ok (.ireturn, 1) := dec_0 oX12_costOf (of172 _) rfl
theorem dX12_isBand_0 : decode cX12_isBand 0 = .ok (.iload_n 2, 1) := dec_0 oX12_isBand (of28 _) rfl
theorem dX12_isBand_1 : decode cX12_isBand 1 = .ok (.iconst 0, 1) := dec_0 oX12_isBand (of3 _) rfl
theorem dX12_isBand_2 : decode cX12_isBand 2 = .ok (.aload_n 0, 1) := dec_0 oX12_isBand (of42 _) rfl
theorem dX12_isBand_3 : decode cX12_isBand 3 = .ok (.getfield 267, 3) := dec_2 oX12_isBand (of180 _) 1 11 rfl rfl
theorem dX12_isBand_6 : decode cX12_isBand 6 = .ok (.iconst 1, 1) := dec_0 oX12_isBand (of4 _) rfl
theorem dX12_isBand_7 : decode cX12_isBand 7 = .ok (.isub, 1) := dec_0 oX12_isBand (of100 _) rfl
theorem dX12_isBand_8 : decode cX12_isBand 8 = .ok (.invokestatic 244, 3) := dec_2 oX12_isBand (of184 _) 0 244 rfl rfl
theorem dX12_isBand_11 : decode cX12_isBand 11 = .ok (.ifCond .eq 33, 3) := dec_s2 oX12_isBand (of153 _) 0 33 rfl (sg16p rfl) rfl
theorem dX12_isBand_14 : decode cX12_isBand 14 = .ok (.iload_n 1, 1) := dec_0 oX12_isBand (of27 _) rfl
theorem dX12_isBand_15 : decode cX12_isBand 15 = .ok (.iload_n 2, 1) := dec_0 oX12_isBand (of28 _) rfl
theorem dX12_isBand_16 : decode cX12_isBand 16 = .ok (.isub, 1) := dec_0 oX12_isBand (of100 _) rfl
theorem dX12_isBand_17 : decode cX12_isBand 17 = .ok (.aload_n 0, 1) := dec_0 oX12_isBand (of42 _) rfl
theorem dX12_isBand_18 : decode cX12_isBand 18 = .ok (.getfield 73, 3) := dec_2 oX12_isBand (of180 _) 0 73 rfl rfl
theorem dX12_isBand_21 : decode cX12_isBand 21 = .ok (.sipush 161, 3) := dec_s2 oX12_isBand (of17 _) 0 161 rfl (sg16p rfl) rfl
theorem dX12_isBand_24 : decode cX12_isBand 24 = .ok (.iaload, 1) := dec_0 oX12_isBand (of46 _) rfl
theorem dX12_isBand_25 : decode cX12_isBand 25 = .ok (.ineg, 1) := dec_0 oX12_isBand (of116 _) rfl
theorem dX12_isBand_26 : decode cX12_isBand 26 = .ok (.aload_n 0, 1) := dec_0 oX12_isBand (of42 _) rfl
theorem dX12_isBand_27 : decode cX12_isBand 27 = .ok (.getfield 73, 3) := dec_2 oX12_isBand (of180 _) 0 73 rfl rfl
theorem dX12_isBand_30 : decode cX12_isBand 30 = .ok (.sipush 161, 3) := dec_s2 oX12_isBand (of17 _) 0 161 rfl (sg16p rfl) rfl
theorem dX12_isBand_33 : decode cX12_isBand 33 = .ok (.iaload, 1) := dec_0 oX12_isBand (of46 _) rfl
theorem dX12_isBand_34 : decode cX12_isBand 34 = .ok (.invokestatic 244, 3) := dec_2 oX12_isBand (of184 _) 0 244 rfl rfl
theorem dX12_isBand_37 : decode cX12_isBand 37 = .ok (.ifCond .eq 7, 3) := dec_s2 oX12_isBand (of153 _) 0 7 rfl (sg16p rfl) rfl
theorem dX12_isBand_40 : decode cX12_isBand 40 = .ok (.iconst 1, 1) := dec_0 oX12_isBand (of4 _) rfl
theorem dX12_isBand_41 : decode cX12_isBand 41 = .ok (.goto 4, 3) := dec_s2 oX12_isBand (of167 _) 0 4 rfl (sg16p rfl) rfl
theorem dX12_isBand_44 : decode cX12_isBand 44 = .ok (.iconst 0, 1) := dec_0 oX12_isBand (of3 _) rfl
theorem dX12_isBand_45 : decode cX12_isBand 45 = .ok (.ireturn, 1) := dec_0 oX12_isBand (of172 _) rfl
theorem dX12_atTable_0 : decode cX12_atTable 0 = .ok (.iload_n 1, 1) := dec_0 oX12_atTable (of27 _) rfl
theorem dX12_atTable_1 : decode cX12_atTable 1 = .ok (.ifCond .lt 16, 3) := dec_s2 oX12_atTable (of155 _) 0 16 rfl (sg16p rfl) rfl
theorem dX12_atTable_4 : decode cX12_atTable 4 = .ok (.iload_n 2, 1) := dec_0 oX12_atTable (of28 _) rfl
theorem dX12_atTable_5 : decode cX12_atTable 5 = .ok (.ifCond .lt 12, 3) := dec_s2 oX12_atTable (of155 _) 0 12 rfl (sg16p rfl) rfl
theorem dX12_atTable_8 : decode cX12_atTable 8 = .ok (.aload_n 0, 1) := dec_0 oX12_atTable (of42 _) rfl
theorem dX12_atTable_9 : decode cX12_atTable 9 = .ok (.iload_n 1, 1) := dec_0 oX12_atTable (of27 _) rfl
theorem dX12_atTable_10 : decode cX12_atTable 10 = .ok (.iload_n 2, 1) := dec_0 oX12_atTable (of28 _) rfl
theorem dX12_atTable_11 : decode cX12_atTable 11 = .ok (.invokevirtual 279, 3) := dec_2 oX12_atTable (of182 _) 1 23 rfl rfl
theorem dX12_atTable_14 : decode cX12_atTable 14 = .ok (.ifCond .ne 9, 3) := dec_s2 oX12_atTable (of154 _) 0 9 rfl (sg16p rfl) rfl
theorem dX12_atTable_17 : decode cX12_atTable 17 = .ok (.ldc_w 282, 3) := dec_2 oX12_atTable (of19 _) 1 26 rfl rfl
theorem dX12_atTable_20 : decode cX12_atTable 20 = .ok (.goto 14, 3) := dec_s2 oX12_atTable (of167 _) 0 14 rfl (sg16p rfl) rfl
theorem dX12_atTable_23 : decode cX12_atTable 23 = .ok (.aload_n 0, 1) := dec_0 oX12_atTable (of42 _) rfl
theorem dX12_atTable_24 : decode cX12_atTable 24 = .ok (.getfield 82, 3) := dec_2 oX12_atTable (of180 _) 0 82 rfl rfl
theorem dX12_atTable_27 : decode cX12_atTable 27 = .ok (.bipush 16, 2) := dec_s1 oX12_atTable (of16 _) 16 rfl (sg8p rfl) rfl
theorem dX12_atTable_29 : decode cX12_atTable 29 = .ok (.iload_n 1, 1) := dec_0 oX12_atTable (of27 _) rfl
theorem dX12_atTable_30 : decode cX12_atTable 30 = .ok (.imul, 1) := dec_0 oX12_atTable (of104 _) rfl
theorem dX12_atTable_31 : decode cX12_atTable 31 = .ok (.iload_n 2, 1) := dec_0 oX12_atTable (of28 _) rfl
theorem dX12_atTable_32 : decode cX12_atTable 32 = .ok (.iadd, 1) := dec_0 oX12_atTable (of96 _) rfl
theorem dX12_atTable_33 : decode cX12_atTable 33 = .ok (.iaload, 1) := dec_0 oX12_atTable (of46 _) rfl
theorem dX12_atTable_34 : decode cX12_atTable 34 = .ok (.ireturn, 1) := dec_0 oX12_atTable (of172 _) rfl
theorem dX12_least_0 : decode cX12_least 0 = .ok (.iload_n 0, 1) := dec_0 oX12_least (of26 _) rfl
theorem dX12_least_1 : decode cX12_least 1 = .ok (.iload_n 1, 1) := dec_0 oX12_least (of27 _) rfl
theorem dX12_least_2 : decode cX12_least 2 = .ok (.if_icmp .ge 7, 3) := dec_s2 oX12_least (of162 _) 0 7 rfl (sg16p rfl) rfl
theorem dX12_least_5 : decode cX12_least 5 = .ok (.iload_n 0, 1) := dec_0 oX12_least (of26 _) rfl
theorem dX12_least_6 : decode cX12_least 6 = .ok (.goto 4, 3) := dec_s2 oX12_least (of167 _) 0 4 rfl (sg16p rfl) rfl
theorem dX12_least_9 : decode cX12_least 9 = .ok (.iload_n 1, 1) := dec_0 oX12_least (of27 _) rfl
theorem dX12_least_10 : decode cX12_least 10 = .ok (.ireturn, 1) := dec_0 oX12_least (of172 _) rfl
theorem dX12_laysRow_0 : decode cX12_laysRow 0 = .ok (.ldc_w 282, 3) := dec_2 oX12_laysRow (of19 _) 1 26 rfl rfl
theorem dX12_laysRow_3 : decode cX12_laysRow 3 = .ok (.istore_n 2, 1) := dec_0 oX12_laysRow (of61 _) rfl
theorem dX12_laysRow_4 : decode cX12_laysRow 4 = .ok (.iconst 0, 1) := dec_0 oX12_laysRow (of3 _) rfl
theorem dX12_laysRow_5 : decode cX12_laysRow 5 = .ok (.istore_n 3, 1) := dec_0 oX12_laysRow (of62 _) rfl
theorem dX12_laysRow_6 : decode cX12_laysRow 6 = .ok (.iload_n 3, 1) := dec_0 oX12_laysRow (of29 _) rfl
theorem dX12_laysRow_7 : decode cX12_laysRow 7 = .ok (.aload_n 0, 1) := dec_0 oX12_laysRow (of42 _) rfl
theorem dX12_laysRow_8 : decode cX12_laysRow 8 = .ok (.getfield 267, 3) := dec_2 oX12_laysRow (of180 _) 1 11 rfl rfl
theorem dX12_laysRow_11 : decode cX12_laysRow 11 = .ok (.if_icmp .ge 122, 3) := dec_s2 oX12_laysRow (of162 _) 0 122 rfl (sg16p rfl) rfl
theorem dX12_laysRow_14 : decode cX12_laysRow 14 = .ok (.aload_n 0, 1) := dec_0 oX12_laysRow (of42 _) rfl
theorem dX12_laysRow_15 : decode cX12_laysRow 15 = .ok (.iload_n 1, 1) := dec_0 oX12_laysRow (of27 _) rfl
theorem dX12_laysRow_16 : decode cX12_laysRow 16 = .ok (.iload_n 3, 1) := dec_0 oX12_laysRow (of29 _) rfl
theorem dX12_laysRow_17 : decode cX12_laysRow 17 = .ok (.invokevirtual 279, 3) := dec_2 oX12_laysRow (of182 _) 1 23 rfl rfl
theorem dX12_laysRow_20 : decode cX12_laysRow 20 = .ok (.ifCond .ne 6, 3) := dec_s2 oX12_laysRow (of154 _) 0 6 rfl (sg16p rfl) rfl
theorem dX12_laysRow_23 : decode cX12_laysRow 23 = .ok (.goto 104, 3) := dec_s2 oX12_laysRow (of167 _) 0 104 rfl (sg16p rfl) rfl
theorem dX12_laysRow_26 : decode cX12_laysRow 26 = .ok (.aload_n 0, 1) := dec_0 oX12_laysRow (of42 _) rfl
theorem dX12_laysRow_27 : decode cX12_laysRow 27 = .ok (.iload_n 1, 1) := dec_0 oX12_laysRow (of27 _) rfl
theorem dX12_laysRow_28 : decode cX12_laysRow 28 = .ok (.iconst 1, 1) := dec_0 oX12_laysRow (of4 _) rfl
theorem dX12_laysRow_29 : decode cX12_laysRow 29 = .ok (.isub, 1) := dec_0 oX12_laysRow (of100 _) rfl
theorem dX12_laysRow_30 : decode cX12_laysRow 30 = .ok (.iload_n 3, 1) := dec_0 oX12_laysRow (of29 _) rfl
theorem dX12_laysRow_31 : decode cX12_laysRow 31 = .ok (.iconst 1, 1) := dec_0 oX12_laysRow (of4 _) rfl
theorem dX12_laysRow_32 : decode cX12_laysRow 32 = .ok (.isub, 1) := dec_0 oX12_laysRow (of100 _) rfl
theorem dX12_laysRow_33 : decode cX12_laysRow 33 = .ok (.invokevirtual 283, 3) := dec_2 oX12_laysRow (of182 _) 1 27 rfl rfl
theorem dX12_laysRow_36 : decode cX12_laysRow 36 = .ok (.aload_n 0, 1) := dec_0 oX12_laysRow (of42 _) rfl
theorem dX12_laysRow_37 : decode cX12_laysRow 37 = .ok (.iload_n 1, 1) := dec_0 oX12_laysRow (of27 _) rfl
theorem dX12_laysRow_38 : decode cX12_laysRow 38 = .ok (.iconst 1, 1) := dec_0 oX12_laysRow (of4 _) rfl
theorem dX12_laysRow_39 : decode cX12_laysRow 39 = .ok (.isub, 1) := dec_0 oX12_laysRow (of100 _) rfl
theorem dX12_laysRow_40 : decode cX12_laysRow 40 = .ok (.iload_n 3, 1) := dec_0 oX12_laysRow (of29 _) rfl
theorem dX12_laysRow_41 : decode cX12_laysRow 41 = .ok (.invokevirtual 283, 3) := dec_2 oX12_laysRow (of182 _) 1 27 rfl rfl
theorem dX12_laysRow_44 : decode cX12_laysRow 44 = .ok (.aload_n 0, 1) := dec_0 oX12_laysRow (of42 _) rfl
theorem dX12_laysRow_45 : decode cX12_laysRow 45 = .ok (.iload_n 1, 1) := dec_0 oX12_laysRow (of27 _) rfl
theorem dX12_laysRow_46 : decode cX12_laysRow 46 = .ok (.iload_n 3, 1) := dec_0 oX12_laysRow (of29 _) rfl
theorem dX12_laysRow_47 : decode cX12_laysRow 47 = .ok (.iconst 1, 1) := dec_0 oX12_laysRow (of4 _) rfl
theorem dX12_laysRow_48 : decode cX12_laysRow 48 = .ok (.isub, 1) := dec_0 oX12_laysRow (of100 _) rfl
theorem dX12_laysRow_49 : decode cX12_laysRow 49 = .ok (.invokevirtual 283, 3) := dec_2 oX12_laysRow (of182 _) 1 27 rfl rfl
theorem dX12_laysRow_52 : decode cX12_laysRow 52 = .ok (.invokestatic 286, 3) := dec_2 oX12_laysRow (of184 _) 1 30 rfl rfl
theorem dX12_laysRow_55 : decode cX12_laysRow 55 = .ok (.invokestatic 286, 3) := dec_2 oX12_laysRow (of184 _) 1 30 rfl rfl
theorem dX12_laysRow_58 : decode cX12_laysRow 58 = .ok (.istore 4, 2) := dec_1 oX12_laysRow (of54 _) 4 rfl rfl
theorem dX12_laysRow_60 : decode cX12_laysRow 60 = .ok (.iload_n 1, 1) := dec_0 oX12_laysRow (of27 _) rfl
theorem dX12_laysRow_61 : decode cX12_laysRow 61 = .ok (.ifCond .ne 10, 3) := dec_s2 oX12_laysRow (of154 _) 0 10 rfl (sg16p rfl) rfl
theorem dX12_laysRow_64 : decode cX12_laysRow 64 = .ok (.iload_n 3, 1) := dec_0 oX12_laysRow (of29 _) rfl
theorem dX12_laysRow_65 : decode cX12_laysRow 65 = .ok (.ifCond .ne 6, 3) := dec_s2 oX12_laysRow (of154 _) 0 6 rfl (sg16p rfl) rfl
theorem dX12_laysRow_68 : decode cX12_laysRow 68 = .ok (.iconst 0, 1) := dec_0 oX12_laysRow (of3 _) rfl
theorem dX12_laysRow_69 : decode cX12_laysRow 69 = .ok (.istore 4, 2) := dec_1 oX12_laysRow (of54 _) 4 rfl rfl
theorem dX12_laysRow_71 : decode cX12_laysRow 71 = .ok (.aload_n 0, 1) := dec_0 oX12_laysRow (of42 _) rfl
theorem dX12_laysRow_72 : decode cX12_laysRow 72 = .ok (.getfield 82, 3) := dec_2 oX12_laysRow (of180 _) 0 82 rfl rfl
theorem dX12_laysRow_75 : decode cX12_laysRow 75 = .ok (.bipush 16, 2) := dec_s1 oX12_laysRow (of16 _) 16 rfl (sg8p rfl) rfl
theorem dX12_laysRow_77 : decode cX12_laysRow 77 = .ok (.iload_n 1, 1) := dec_0 oX12_laysRow (of27 _) rfl
theorem dX12_laysRow_78 : decode cX12_laysRow 78 = .ok (.imul, 1) := dec_0 oX12_laysRow (of104 _) rfl
theorem dX12_laysRow_79 : decode cX12_laysRow 79 = .ok (.iload_n 3, 1) := dec_0 oX12_laysRow (of29 _) rfl
theorem dX12_laysRow_80 : decode cX12_laysRow 80 = .ok (.iadd, 1) := dec_0 oX12_laysRow (of96 _) rfl
theorem dX12_laysRow_81 : decode cX12_laysRow 81 = .ok (.iload 4, 2) := dec_1 oX12_laysRow (of21 _) 4 rfl rfl
theorem dX12_laysRow_83 : decode cX12_laysRow 83 = .ok (.aload_n 0, 1) := dec_0 oX12_laysRow (of42 _) rfl
theorem dX12_laysRow_84 : decode cX12_laysRow 84 = .ok (.aload_n 0, 1) := dec_0 oX12_laysRow (of42 _) rfl
theorem dX12_laysRow_85 : decode cX12_laysRow 85 = .ok (.getfield 76, 3) := dec_2 oX12_laysRow (of180 _) 0 76 rfl rfl
theorem dX12_laysRow_88 : decode cX12_laysRow 88 = .ok (.iload_n 1, 1) := dec_0 oX12_laysRow (of27 _) rfl
theorem dX12_laysRow_89 : decode cX12_laysRow 89 = .ok (.iaload, 1) := dec_0 oX12_laysRow (of46 _) rfl
theorem dX12_laysRow_90 : decode cX12_laysRow 90 = .ok (.aload_n 0, 1) := dec_0 oX12_laysRow (of42 _) rfl
theorem dX12_laysRow_91 : decode cX12_laysRow 91 = .ok (.getfield 79, 3) := dec_2 oX12_laysRow (of180 _) 0 79 rfl rfl
theorem dX12_laysRow_94 : decode cX12_laysRow 94 = .ok (.iload_n 3, 1) := dec_0 oX12_laysRow (of29 _) rfl
theorem dX12_laysRow_95 : decode cX12_laysRow 95 = .ok (.iaload, 1) := dec_0 oX12_laysRow (of46 _) rfl
theorem dX12_laysRow_96 : decode cX12_laysRow 96 = .ok (.invokevirtual 289, 3) := dec_2 oX12_laysRow (of182 _) 1 33 rfl rfl
theorem dX12_laysRow_99 : decode cX12_laysRow 99 = .ok (.iadd, 1) := dec_0 oX12_laysRow (of96 _) rfl
theorem dX12_laysRow_100 : decode cX12_laysRow 100 = .ok (.iastore, 1) := dec_0 oX12_laysRow (of79 _) rfl
theorem dX12_laysRow_101 : decode cX12_laysRow 101 = .ok (.iload_n 2, 1) := dec_0 oX12_laysRow (of28 _) rfl
theorem dX12_laysRow_102 : decode cX12_laysRow 102 = .ok (.aload_n 0, 1) := dec_0 oX12_laysRow (of42 _) rfl
theorem dX12_laysRow_103 : decode cX12_laysRow 103 = .ok (.getfield 82, 3) := dec_2 oX12_laysRow (of180 _) 0 82 rfl rfl
theorem dX12_laysRow_106 : decode cX12_laysRow 106 = .ok (.bipush 16, 2) := dec_s1 oX12_laysRow (of16 _) 16 rfl (sg8p rfl) rfl
theorem dX12_laysRow_108 : decode cX12_laysRow 108 = .ok (.iload_n 1, 1) := dec_0 oX12_laysRow (of27 _) rfl
theorem dX12_laysRow_109 : decode cX12_laysRow 109 = .ok (.imul, 1) := dec_0 oX12_laysRow (of104 _) rfl
theorem dX12_laysRow_110 : decode cX12_laysRow 110 = .ok (.iload_n 3, 1) := dec_0 oX12_laysRow (of29 _) rfl
theorem dX12_laysRow_111 : decode cX12_laysRow 111 = .ok (.iadd, 1) := dec_0 oX12_laysRow (of96 _) rfl
theorem dX12_laysRow_112 : decode cX12_laysRow 112 = .ok (.iaload, 1) := dec_0 oX12_laysRow (of46 _) rfl
theorem dX12_laysRow_113 : decode cX12_laysRow 113 = .ok (.invokestatic 286, 3) := dec_2 oX12_laysRow (of184 _) 1 30 rfl rfl
theorem dX12_laysRow_116 : decode cX12_laysRow 116 = .ok (.istore_n 2, 1) := dec_0 oX12_laysRow (of61 _) rfl
theorem dX12_laysRow_117 : decode cX12_laysRow 117 = .ok (.aload_n 0, 1) := dec_0 oX12_laysRow (of42 _) rfl
theorem dX12_laysRow_118 : decode cX12_laysRow 118 = .ok (.dup, 1) := dec_0 oX12_laysRow (of89 _) rfl
theorem dX12_laysRow_119 : decode cX12_laysRow 119 = .ok (.getfield 292, 3) := dec_2 oX12_laysRow (of180 _) 1 36 rfl rfl
theorem dX12_laysRow_122 : decode cX12_laysRow 122 = .ok (.iconst 1, 1) := dec_0 oX12_laysRow (of4 _) rfl
theorem dX12_laysRow_123 : decode cX12_laysRow 123 = .ok (.iadd, 1) := dec_0 oX12_laysRow (of96 _) rfl
theorem dX12_laysRow_124 : decode cX12_laysRow 124 = .ok (.putfield 292, 3) := dec_2 oX12_laysRow (of181 _) 1 36 rfl rfl
theorem dX12_laysRow_127 : decode cX12_laysRow 127 = .ok (.iinc 3 1, 3) := dec_ii oX12_laysRow (of132 _) 3 1 rfl (sg8p rfl) rfl
theorem dX12_laysRow_130 : decode cX12_laysRow 130 = .ok (.goto (-124), 3) := dec_s2 oX12_laysRow (of167 _) 255 132 rfl (sg16n (k := 124) rfl) rfl
theorem dX12_laysRow_133 : decode cX12_laysRow 133 = .ok (.iload_n 2, 1) := dec_0 oX12_laysRow (of28 _) rfl
theorem dX12_laysRow_134 : decode cX12_laysRow 134 = .ok (.ireturn, 1) := dec_0 oX12_laysRow (of172 _) rfl
theorem dX12_laysTable_0 : decode cX12_laysTable 0 = .ok (.aload_n 0, 1) := dec_0 oX12_laysTable (of42 _) rfl
theorem dX12_laysTable_1 : decode cX12_laysTable 1 = .ok (.iconst 0, 1) := dec_0 oX12_laysTable (of3 _) rfl
theorem dX12_laysTable_2 : decode cX12_laysTable 2 = .ok (.putfield 292, 3) := dec_2 oX12_laysTable (of181 _) 1 36 rfl rfl
theorem dX12_laysTable_5 : decode cX12_laysTable 5 = .ok (.aload_n 0, 1) := dec_0 oX12_laysTable (of42 _) rfl
theorem dX12_laysTable_6 : decode cX12_laysTable 6 = .ok (.iconst (-1), 1) := dec_0 oX12_laysTable (of2 _) rfl
theorem dX12_laysTable_7 : decode cX12_laysTable 7 = .ok (.putfield 295, 3) := dec_2 oX12_laysTable (of181 _) 1 39 rfl rfl
theorem dX12_laysTable_10 : decode cX12_laysTable 10 = .ok (.iconst 0, 1) := dec_0 oX12_laysTable (of3 _) rfl
theorem dX12_laysTable_11 : decode cX12_laysTable 11 = .ok (.istore_n 2, 1) := dec_0 oX12_laysTable (of61 _) rfl
theorem dX12_laysTable_12 : decode cX12_laysTable 12 = .ok (.iload_n 2, 1) := dec_0 oX12_laysTable (of28 _) rfl
theorem dX12_laysTable_13 : decode cX12_laysTable 13 = .ok (.aload_n 0, 1) := dec_0 oX12_laysTable (of42 _) rfl
theorem dX12_laysTable_14 : decode cX12_laysTable 14 = .ok (.getfield 267, 3) := dec_2 oX12_laysTable (of180 _) 1 11 rfl rfl
theorem dX12_laysTable_17 : decode cX12_laysTable 17 = .ok (.if_icmp .ge 30, 3) := dec_s2 oX12_laysTable (of162 _) 0 30 rfl (sg16p rfl) rfl
theorem dX12_laysTable_20 : decode cX12_laysTable 20 = .ok (.aload_n 0, 1) := dec_0 oX12_laysTable (of42 _) rfl
theorem dX12_laysTable_21 : decode cX12_laysTable 21 = .ok (.iload_n 2, 1) := dec_0 oX12_laysTable (of28 _) rfl
theorem dX12_laysTable_22 : decode cX12_laysTable 22 = .ok (.invokevirtual 298, 3) := dec_2 oX12_laysTable (of182 _) 1 42 rfl rfl
theorem dX12_laysTable_25 : decode cX12_laysTable 25 = .ok (.iload_n 1, 1) := dec_0 oX12_laysTable (of27 _) rfl
theorem dX12_laysTable_26 : decode cX12_laysTable 26 = .ok (.if_icmp .ge 6, 3) := dec_s2 oX12_laysTable (of162 _) 0 6 rfl (sg16p rfl) rfl
theorem dX12_laysTable_29 : decode cX12_laysTable 29 = .ok (.goto 12, 3) := dec_s2 oX12_laysTable (of167 _) 0 12 rfl (sg16p rfl) rfl
theorem dX12_laysTable_32 : decode cX12_laysTable 32 = .ok (.aload_n 0, 1) := dec_0 oX12_laysTable (of42 _) rfl
theorem dX12_laysTable_33 : decode cX12_laysTable 33 = .ok (.iload_n 2, 1) := dec_0 oX12_laysTable (of28 _) rfl
theorem dX12_laysTable_34 : decode cX12_laysTable 34 = .ok (.putfield 295, 3) := dec_2 oX12_laysTable (of181 _) 1 39 rfl rfl
theorem dX12_laysTable_37 : decode cX12_laysTable 37 = .ok (.ldc_w 282, 3) := dec_2 oX12_laysTable (of19 _) 1 26 rfl rfl
theorem dX12_laysTable_40 : decode cX12_laysTable 40 = .ok (.ireturn, 1) := dec_0 oX12_laysTable (of172 _) rfl
theorem dX12_laysTable_41 : decode cX12_laysTable 41 = .ok (.iinc 2 1, 3) := dec_ii oX12_laysTable (of132 _) 2 1 rfl (sg8p rfl) rfl
theorem dX12_laysTable_44 : decode cX12_laysTable 44 = .ok (.goto (-32), 3) := dec_s2 oX12_laysTable (of167 _) 255 224 rfl (sg16n (k := 32) rfl) rfl
theorem dX12_laysTable_47 : decode cX12_laysTable 47 = .ok (.aload_n 0, 1) := dec_0 oX12_laysTable (of42 _) rfl
theorem dX12_laysTable_48 : decode cX12_laysTable 48 = .ok (.aload_n 0, 1) := dec_0 oX12_laysTable (of42 _) rfl
theorem dX12_laysTable_49 : decode cX12_laysTable 49 = .ok (.getfield 267, 3) := dec_2 oX12_laysTable (of180 _) 1 11 rfl rfl
theorem dX12_laysTable_52 : decode cX12_laysTable 52 = .ok (.iconst 1, 1) := dec_0 oX12_laysTable (of4 _) rfl
theorem dX12_laysTable_53 : decode cX12_laysTable 53 = .ok (.isub, 1) := dec_0 oX12_laysTable (of100 _) rfl
theorem dX12_laysTable_54 : decode cX12_laysTable 54 = .ok (.aload_n 0, 1) := dec_0 oX12_laysTable (of42 _) rfl
theorem dX12_laysTable_55 : decode cX12_laysTable 55 = .ok (.getfield 267, 3) := dec_2 oX12_laysTable (of180 _) 1 11 rfl rfl
theorem dX12_laysTable_58 : decode cX12_laysTable 58 = .ok (.iconst 1, 1) := dec_0 oX12_laysTable (of4 _) rfl
theorem dX12_laysTable_59 : decode cX12_laysTable 59 = .ok (.isub, 1) := dec_0 oX12_laysTable (of100 _) rfl
theorem dX12_laysTable_60 : decode cX12_laysTable 60 = .ok (.invokevirtual 283, 3) := dec_2 oX12_laysTable (of182 _) 1 27 rfl rfl
theorem dX12_laysTable_63 : decode cX12_laysTable 63 = .ok (.ireturn, 1) := dec_0 oX12_laysTable (of172 _) rfl
theorem dX12_distanceOf_0 : decode cX12_distanceOf 0 = .ok (.aload_n 0, 1) := dec_0 oX12_distanceOf (of42 _) rfl
theorem dX12_distanceOf_1 : decode cX12_distanceOf 1 = .ok (.iload_n 1, 1) := dec_0 oX12_distanceOf (of27 _) rfl
theorem dX12_distanceOf_2 : decode cX12_distanceOf 2 = .ok (.iload_n 2, 1) := dec_0 oX12_distanceOf (of28 _) rfl
theorem dX12_distanceOf_3 : decode cX12_distanceOf 3 = .ok (.invokevirtual 301, 3) := dec_2 oX12_distanceOf (of182 _) 1 45 rfl rfl
theorem dX12_distanceOf_6 : decode cX12_distanceOf 6 = .ok (.aload_n 0, 1) := dec_0 oX12_distanceOf (of42 _) rfl
theorem dX12_distanceOf_7 : decode cX12_distanceOf 7 = .ok (.ldc_w 282, 3) := dec_2 oX12_distanceOf (of19 _) 1 26 rfl rfl
theorem dX12_distanceOf_10 : decode cX12_distanceOf 10 = .ok (.invokevirtual 304, 3) := dec_2 oX12_distanceOf (of182 _) 1 48 rfl rfl
theorem dX12_distanceOf_13 : decode cX12_distanceOf 13 = .ok (.ireturn, 1) := dec_0 oX12_distanceOf (of172 _) rfl
theorem dX12_endsOf_0 : decode cX12_endsOf 0 = .ok (.aload_n 0, 1) := dec_0 oX12_endsOf (of42 _) rfl
theorem dX12_endsOf_1 : decode cX12_endsOf 1 = .ok (.aload_n 0, 1) := dec_0 oX12_endsOf (of42 _) rfl
theorem dX12_endsOf_2 : decode cX12_endsOf 2 = .ok (.getfield 76, 3) := dec_2 oX12_endsOf (of180 _) 0 76 rfl rfl
theorem dX12_endsOf_5 : decode cX12_endsOf 5 = .ok (.iconst 0, 1) := dec_0 oX12_endsOf (of3 _) rfl
theorem dX12_endsOf_6 : decode cX12_endsOf 6 = .ok (.iaload, 1) := dec_0 oX12_endsOf (of46 _) rfl
theorem dX12_endsOf_7 : decode cX12_endsOf 7 = .ok (.aload_n 0, 1) := dec_0 oX12_endsOf (of42 _) rfl
theorem dX12_endsOf_8 : decode cX12_endsOf 8 = .ok (.getfield 79, 3) := dec_2 oX12_endsOf (of180 _) 0 79 rfl rfl
theorem dX12_endsOf_11 : decode cX12_endsOf 11 = .ok (.iconst 0, 1) := dec_0 oX12_endsOf (of3 _) rfl
theorem dX12_endsOf_12 : decode cX12_endsOf 12 = .ok (.iaload, 1) := dec_0 oX12_endsOf (of46 _) rfl
theorem dX12_endsOf_13 : decode cX12_endsOf 13 = .ok (.invokevirtual 289, 3) := dec_2 oX12_endsOf (of182 _) 1 33 rfl rfl
theorem dX12_endsOf_16 : decode cX12_endsOf 16 = .ok (.aload_n 0, 1) := dec_0 oX12_endsOf (of42 _) rfl
theorem dX12_endsOf_17 : decode cX12_endsOf 17 = .ok (.aload_n 0, 1) := dec_0 oX12_endsOf (of42 _) rfl
theorem dX12_endsOf_18 : decode cX12_endsOf 18 = .ok (.getfield 76, 3) := dec_2 oX12_endsOf (of180 _) 0 76 rfl rfl
theorem dX12_endsOf_21 : decode cX12_endsOf 21 = .ok (.aload_n 0, 1) := dec_0 oX12_endsOf (of42 _) rfl
theorem dX12_endsOf_22 : decode cX12_endsOf 22 = .ok (.getfield 267, 3) := dec_2 oX12_endsOf (of180 _) 1 11 rfl rfl
theorem dX12_endsOf_25 : decode cX12_endsOf 25 = .ok (.iconst 1, 1) := dec_0 oX12_endsOf (of4 _) rfl
theorem dX12_endsOf_26 : decode cX12_endsOf 26 = .ok (.isub, 1) := dec_0 oX12_endsOf (of100 _) rfl
theorem dX12_endsOf_27 : decode cX12_endsOf 27 = .ok (.iaload, 1) := dec_0 oX12_endsOf (of46 _) rfl
theorem dX12_endsOf_28 : decode cX12_endsOf 28 = .ok (.aload_n 0, 1) := dec_0 oX12_endsOf (of42 _) rfl
theorem dX12_endsOf_29 : decode cX12_endsOf 29 = .ok (.getfield 79, 3) := dec_2 oX12_endsOf (of180 _) 0 79 rfl rfl
theorem dX12_endsOf_32 : decode cX12_endsOf 32 = .ok (.aload_n 0, 1) := dec_0 oX12_endsOf (of42 _) rfl
theorem dX12_endsOf_33 : decode cX12_endsOf 33 = .ok (.getfield 267, 3) := dec_2 oX12_endsOf (of180 _) 1 11 rfl rfl
theorem dX12_endsOf_36 : decode cX12_endsOf 36 = .ok (.iconst 1, 1) := dec_0 oX12_endsOf (of4 _) rfl
theorem dX12_endsOf_37 : decode cX12_endsOf 37 = .ok (.isub, 1) := dec_0 oX12_endsOf (of100 _) rfl
theorem dX12_endsOf_38 : decode cX12_endsOf 38 = .ok (.iaload, 1) := dec_0 oX12_endsOf (of46 _) rfl
theorem dX12_endsOf_39 : decode cX12_endsOf 39 = .ok (.invokevirtual 289, 3) := dec_2 oX12_endsOf (of182 _) 1 33 rfl rfl
theorem dX12_endsOf_42 : decode cX12_endsOf 42 = .ok (.iadd, 1) := dec_0 oX12_endsOf (of96 _) rfl
theorem dX12_endsOf_43 : decode cX12_endsOf 43 = .ok (.ireturn, 1) := dec_0 oX12_endsOf (of172 _) rfl
theorem dX12_overOf_0 : decode cX12_overOf 0 = .ok (.iconst 0, 1) := dec_0 oX12_overOf (of3 _) rfl
theorem dX12_overOf_1 : decode cX12_overOf 1 = .ok (.istore_n 1, 1) := dec_0 oX12_overOf (of60 _) rfl
theorem dX12_overOf_2 : decode cX12_overOf 2 = .ok (.iconst 0, 1) := dec_0 oX12_overOf (of3 _) rfl
theorem dX12_overOf_3 : decode cX12_overOf 3 = .ok (.istore_n 2, 1) := dec_0 oX12_overOf (of61 _) rfl
theorem dX12_overOf_4 : decode cX12_overOf 4 = .ok (.iload_n 2, 1) := dec_0 oX12_overOf (of28 _) rfl
theorem dX12_overOf_5 : decode cX12_overOf 5 = .ok (.aload_n 0, 1) := dec_0 oX12_overOf (of42 _) rfl
theorem dX12_overOf_6 : decode cX12_overOf 6 = .ok (.getfield 267, 3) := dec_2 oX12_overOf (of180 _) 1 11 rfl rfl
theorem dX12_overOf_9 : decode cX12_overOf 9 = .ok (.if_icmp .ge 139, 3) := dec_s2 oX12_overOf (of162 _) 0 139 rfl (sg16p rfl) rfl
theorem dX12_overOf_12 : decode cX12_overOf 12 = .ok (.ldc_w 307, 3) := dec_2 oX12_overOf (of19 _) 1 51 rfl rfl
theorem dX12_overOf_15 : decode cX12_overOf 15 = .ok (.istore_n 3, 1) := dec_0 oX12_overOf (of62 _) rfl
theorem dX12_overOf_16 : decode cX12_overOf 16 = .ok (.ldc_w 282, 3) := dec_2 oX12_overOf (of19 _) 1 26 rfl rfl
theorem dX12_overOf_19 : decode cX12_overOf 19 = .ok (.istore 4, 2) := dec_1 oX12_overOf (of54 _) 4 rfl rfl
theorem dX12_overOf_21 : decode cX12_overOf 21 = .ok (.iconst 0, 1) := dec_0 oX12_overOf (of3 _) rfl
theorem dX12_overOf_22 : decode cX12_overOf 22 = .ok (.istore 5, 2) := dec_1 oX12_overOf (of54 _) 5 rfl rfl
theorem dX12_overOf_24 : decode cX12_overOf 24 = .ok (.iload 5, 2) := dec_1 oX12_overOf (of21 _) 5 rfl rfl
theorem dX12_overOf_26 : decode cX12_overOf 26 = .ok (.aload_n 0, 1) := dec_0 oX12_overOf (of42 _) rfl
theorem dX12_overOf_27 : decode cX12_overOf 27 = .ok (.getfield 267, 3) := dec_2 oX12_overOf (of180 _) 1 11 rfl rfl
theorem dX12_overOf_30 : decode cX12_overOf 30 = .ok (.if_icmp .ge 62, 3) := dec_s2 oX12_overOf (of162 _) 0 62 rfl (sg16p rfl) rfl
theorem dX12_overOf_33 : decode cX12_overOf 33 = .ok (.aload_n 0, 1) := dec_0 oX12_overOf (of42 _) rfl
theorem dX12_overOf_34 : decode cX12_overOf 34 = .ok (.iload 5, 2) := dec_1 oX12_overOf (of21 _) 5 rfl rfl
theorem dX12_overOf_36 : decode cX12_overOf 36 = .ok (.iload_n 2, 1) := dec_0 oX12_overOf (of28 _) rfl
theorem dX12_overOf_37 : decode cX12_overOf 37 = .ok (.invokevirtual 279, 3) := dec_2 oX12_overOf (of182 _) 1 23 rfl rfl
theorem dX12_overOf_40 : decode cX12_overOf 40 = .ok (.ifCond .ne 6, 3) := dec_s2 oX12_overOf (of154 _) 0 6 rfl (sg16p rfl) rfl
theorem dX12_overOf_43 : decode cX12_overOf 43 = .ok (.goto 43, 3) := dec_s2 oX12_overOf (of167 _) 0 43 rfl (sg16p rfl) rfl
theorem dX12_overOf_46 : decode cX12_overOf 46 = .ok (.aload_n 0, 1) := dec_0 oX12_overOf (of42 _) rfl
theorem dX12_overOf_47 : decode cX12_overOf 47 = .ok (.getfield 76, 3) := dec_2 oX12_overOf (of180 _) 0 76 rfl rfl
theorem dX12_overOf_50 : decode cX12_overOf 50 = .ok (.iload 5, 2) := dec_1 oX12_overOf (of21 _) 5 rfl rfl
theorem dX12_overOf_52 : decode cX12_overOf 52 = .ok (.iaload, 1) := dec_0 oX12_overOf (of46 _) rfl
theorem dX12_overOf_53 : decode cX12_overOf 53 = .ok (.iload_n 3, 1) := dec_0 oX12_overOf (of29 _) rfl
theorem dX12_overOf_54 : decode cX12_overOf 54 = .ok (.if_icmp .le 11, 3) := dec_s2 oX12_overOf (of164 _) 0 11 rfl (sg16p rfl) rfl
theorem dX12_overOf_57 : decode cX12_overOf 57 = .ok (.aload_n 0, 1) := dec_0 oX12_overOf (of42 _) rfl
theorem dX12_overOf_58 : decode cX12_overOf 58 = .ok (.getfield 76, 3) := dec_2 oX12_overOf (of180 _) 0 76 rfl rfl
theorem dX12_overOf_61 : decode cX12_overOf 61 = .ok (.iload 5, 2) := dec_1 oX12_overOf (of21 _) 5 rfl rfl
theorem dX12_overOf_63 : decode cX12_overOf 63 = .ok (.iaload, 1) := dec_0 oX12_overOf (of46 _) rfl
theorem dX12_overOf_64 : decode cX12_overOf 64 = .ok (.istore_n 3, 1) := dec_0 oX12_overOf (of62 _) rfl
theorem dX12_overOf_65 : decode cX12_overOf 65 = .ok (.aload_n 0, 1) := dec_0 oX12_overOf (of42 _) rfl
theorem dX12_overOf_66 : decode cX12_overOf 66 = .ok (.getfield 76, 3) := dec_2 oX12_overOf (of180 _) 0 76 rfl rfl
theorem dX12_overOf_69 : decode cX12_overOf 69 = .ok (.iload 5, 2) := dec_1 oX12_overOf (of21 _) 5 rfl rfl
theorem dX12_overOf_71 : decode cX12_overOf 71 = .ok (.iaload, 1) := dec_0 oX12_overOf (of46 _) rfl
theorem dX12_overOf_72 : decode cX12_overOf 72 = .ok (.iload 4, 2) := dec_1 oX12_overOf (of21 _) 4 rfl rfl
theorem dX12_overOf_74 : decode cX12_overOf 74 = .ok (.if_icmp .ge 12, 3) := dec_s2 oX12_overOf (of162 _) 0 12 rfl (sg16p rfl) rfl
theorem dX12_overOf_77 : decode cX12_overOf 77 = .ok (.aload_n 0, 1) := dec_0 oX12_overOf (of42 _) rfl
theorem dX12_overOf_78 : decode cX12_overOf 78 = .ok (.getfield 76, 3) := dec_2 oX12_overOf (of180 _) 0 76 rfl rfl
theorem dX12_overOf_81 : decode cX12_overOf 81 = .ok (.iload 5, 2) := dec_1 oX12_overOf (of21 _) 5 rfl rfl
theorem dX12_overOf_83 : decode cX12_overOf 83 = .ok (.iaload, 1) := dec_0 oX12_overOf (of46 _) rfl
theorem dX12_overOf_84 : decode cX12_overOf 84 = .ok (.istore 4, 2) := dec_1 oX12_overOf (of54 _) 4 rfl rfl
theorem dX12_overOf_86 : decode cX12_overOf 86 = .ok (.iinc 5 1, 3) := dec_ii oX12_overOf (of132 _) 5 1 rfl (sg8p rfl) rfl
theorem dX12_overOf_89 : decode cX12_overOf 89 = .ok (.goto (-65), 3) := dec_s2 oX12_overOf (of167 _) 255 191 rfl (sg16n (k := 65) rfl) rfl
theorem dX12_overOf_92 : decode cX12_overOf 92 = .ok (.aload_n 0, 1) := dec_0 oX12_overOf (of42 _) rfl
theorem dX12_overOf_93 : decode cX12_overOf 93 = .ok (.getfield 79, 3) := dec_2 oX12_overOf (of180 _) 0 79 rfl rfl
theorem dX12_overOf_96 : decode cX12_overOf 96 = .ok (.iload_n 2, 1) := dec_0 oX12_overOf (of28 _) rfl
theorem dX12_overOf_97 : decode cX12_overOf 97 = .ok (.iaload, 1) := dec_0 oX12_overOf (of46 _) rfl
theorem dX12_overOf_98 : decode cX12_overOf 98 = .ok (.iload_n 3, 1) := dec_0 oX12_overOf (of29 _) rfl
theorem dX12_overOf_99 : decode cX12_overOf 99 = .ok (.if_icmp .le 17, 3) := dec_s2 oX12_overOf (of164 _) 0 17 rfl (sg16p rfl) rfl
theorem dX12_overOf_102 : decode cX12_overOf 102 = .ok (.iload_n 1, 1) := dec_0 oX12_overOf (of27 _) rfl
theorem dX12_overOf_103 : decode cX12_overOf 103 = .ok (.aload_n 0, 1) := dec_0 oX12_overOf (of42 _) rfl
theorem dX12_overOf_104 : decode cX12_overOf 104 = .ok (.aload_n 0, 1) := dec_0 oX12_overOf (of42 _) rfl
theorem dX12_overOf_105 : decode cX12_overOf 105 = .ok (.getfield 79, 3) := dec_2 oX12_overOf (of180 _) 0 79 rfl rfl
theorem dX12_overOf_108 : decode cX12_overOf 108 = .ok (.iload_n 2, 1) := dec_0 oX12_overOf (of28 _) rfl
theorem dX12_overOf_109 : decode cX12_overOf 109 = .ok (.iaload, 1) := dec_0 oX12_overOf (of46 _) rfl
theorem dX12_overOf_110 : decode cX12_overOf 110 = .ok (.iload_n 3, 1) := dec_0 oX12_overOf (of29 _) rfl
theorem dX12_overOf_111 : decode cX12_overOf 111 = .ok (.invokevirtual 289, 3) := dec_2 oX12_overOf (of182 _) 1 33 rfl rfl
theorem dX12_overOf_114 : decode cX12_overOf 114 = .ok (.iadd, 1) := dec_0 oX12_overOf (of96 _) rfl
theorem dX12_overOf_115 : decode cX12_overOf 115 = .ok (.istore_n 1, 1) := dec_0 oX12_overOf (of60 _) rfl
theorem dX12_overOf_116 : decode cX12_overOf 116 = .ok (.aload_n 0, 1) := dec_0 oX12_overOf (of42 _) rfl
theorem dX12_overOf_117 : decode cX12_overOf 117 = .ok (.getfield 79, 3) := dec_2 oX12_overOf (of180 _) 0 79 rfl rfl
theorem dX12_overOf_120 : decode cX12_overOf 120 = .ok (.iload_n 2, 1) := dec_0 oX12_overOf (of28 _) rfl
theorem dX12_overOf_121 : decode cX12_overOf 121 = .ok (.iaload, 1) := dec_0 oX12_overOf (of46 _) rfl
theorem dX12_overOf_122 : decode cX12_overOf 122 = .ok (.iload 4, 2) := dec_1 oX12_overOf (of21 _) 4 rfl rfl
theorem dX12_overOf_124 : decode cX12_overOf 124 = .ok (.if_icmp .ge 18, 3) := dec_s2 oX12_overOf (of162 _) 0 18 rfl (sg16p rfl) rfl
theorem dX12_overOf_127 : decode cX12_overOf 127 = .ok (.iload_n 1, 1) := dec_0 oX12_overOf (of27 _) rfl
theorem dX12_overOf_128 : decode cX12_overOf 128 = .ok (.aload_n 0, 1) := dec_0 oX12_overOf (of42 _) rfl
theorem dX12_overOf_129 : decode cX12_overOf 129 = .ok (.aload_n 0, 1) := dec_0 oX12_overOf (of42 _) rfl
theorem dX12_overOf_130 : decode cX12_overOf 130 = .ok (.getfield 79, 3) := dec_2 oX12_overOf (of180 _) 0 79 rfl rfl
theorem dX12_overOf_133 : decode cX12_overOf 133 = .ok (.iload_n 2, 1) := dec_0 oX12_overOf (of28 _) rfl
theorem dX12_overOf_134 : decode cX12_overOf 134 = .ok (.iaload, 1) := dec_0 oX12_overOf (of46 _) rfl
theorem dX12_overOf_135 : decode cX12_overOf 135 = .ok (.iload 4, 2) := dec_1 oX12_overOf (of21 _) 4 rfl rfl
theorem dX12_overOf_137 : decode cX12_overOf 137 = .ok (.invokevirtual 289, 3) := dec_2 oX12_overOf (of182 _) 1 33 rfl rfl
theorem dX12_overOf_140 : decode cX12_overOf 140 = .ok (.iadd, 1) := dec_0 oX12_overOf (of96 _) rfl
theorem dX12_overOf_141 : decode cX12_overOf 141 = .ok (.istore_n 1, 1) := dec_0 oX12_overOf (of60 _) rfl
theorem dX12_overOf_142 : decode cX12_overOf 142 = .ok (.iinc 2 1, 3) := dec_ii oX12_overOf (of132 _) 2 1 rfl (sg8p rfl) rfl
theorem dX12_overOf_145 : decode cX12_overOf 145 = .ok (.goto (-141), 3) := dec_s2 oX12_overOf (of167 _) 255 115 rfl (sg16n (k := 141) rfl) rfl
theorem dX12_overOf_148 : decode cX12_overOf 148 = .ok (.iload_n 1, 1) := dec_0 oX12_overOf (of27 _) rfl
theorem dX12_overOf_149 : decode cX12_overOf 149 = .ok (.ireturn, 1) := dec_0 oX12_overOf (of172 _) rfl
theorem dX12_backOf_0 : decode cX12_backOf 0 = .ok (.aload_n 0, 1) := dec_0 oX12_backOf (of42 _) rfl
theorem dX12_backOf_1 : decode cX12_backOf 1 = .ok (.aload_n 0, 1) := dec_0 oX12_backOf (of42 _) rfl
theorem dX12_backOf_2 : decode cX12_backOf 2 = .ok (.getfield 267, 3) := dec_2 oX12_backOf (of180 _) 1 11 rfl rfl
theorem dX12_backOf_5 : decode cX12_backOf 5 = .ok (.invokevirtual 273, 3) := dec_2 oX12_backOf (of182 _) 1 17 rfl rfl
theorem dX12_backOf_8 : decode cX12_backOf 8 = .ok (.aload_n 0, 1) := dec_0 oX12_backOf (of42 _) rfl
theorem dX12_backOf_9 : decode cX12_backOf 9 = .ok (.invokevirtual 308, 3) := dec_2 oX12_backOf (of182 _) 1 52 rfl rfl
theorem dX12_backOf_12 : decode cX12_backOf 12 = .ok (.istore_n 1, 1) := dec_0 oX12_backOf (of60 _) rfl
theorem dX12_backOf_13 : decode cX12_backOf 13 = .ok (.aload_n 0, 1) := dec_0 oX12_backOf (of42 _) rfl
theorem dX12_backOf_14 : decode cX12_backOf 14 = .ok (.aload_n 0, 1) := dec_0 oX12_backOf (of42 _) rfl
theorem dX12_backOf_15 : decode cX12_backOf 15 = .ok (.getfield 267, 3) := dec_2 oX12_backOf (of180 _) 1 11 rfl rfl
theorem dX12_backOf_18 : decode cX12_backOf 18 = .ok (.invokevirtual 273, 3) := dec_2 oX12_backOf (of182 _) 1 17 rfl rfl
theorem dX12_backOf_21 : decode cX12_backOf 21 = .ok (.iload_n 1, 1) := dec_0 oX12_backOf (of27 _) rfl
theorem dX12_backOf_22 : decode cX12_backOf 22 = .ok (.ireturn, 1) := dec_0 oX12_backOf (of172 _) rfl
theorem dX12_passes_0 : decode cX12_passes 0 = .ok (.aload_n 0, 1) := dec_0 oX12_passes (of42 _) rfl
theorem dX12_passes_1 : decode cX12_passes 1 = .ok (.iload_n 1, 1) := dec_0 oX12_passes (of27 _) rfl
theorem dX12_passes_2 : decode cX12_passes 2 = .ok (.iload_n 2, 1) := dec_0 oX12_passes (of28 _) rfl
theorem dX12_passes_3 : decode cX12_passes 3 = .ok (.invokevirtual 301, 3) := dec_2 oX12_passes (of182 _) 1 45 rfl rfl
theorem dX12_passes_6 : decode cX12_passes 6 = .ok (.aload_n 0, 1) := dec_0 oX12_passes (of42 _) rfl
theorem dX12_passes_7 : decode cX12_passes 7 = .ok (.iconst 0, 1) := dec_0 oX12_passes (of3 _) rfl
theorem dX12_passes_8 : decode cX12_passes 8 = .ok (.putfield 292, 3) := dec_2 oX12_passes (of181 _) 1 36 rfl rfl
theorem dX12_passes_11 : decode cX12_passes 11 = .ok (.aload_n 0, 1) := dec_0 oX12_passes (of42 _) rfl
theorem dX12_passes_12 : decode cX12_passes 12 = .ok (.iconst (-1), 1) := dec_0 oX12_passes (of2 _) rfl
theorem dX12_passes_13 : decode cX12_passes 13 = .ok (.putfield 295, 3) := dec_2 oX12_passes (of181 _) 1 39 rfl rfl
theorem dX12_passes_16 : decode cX12_passes 16 = .ok (.aload_n 0, 1) := dec_0 oX12_passes (of42 _) rfl
theorem dX12_passes_17 : decode cX12_passes 17 = .ok (.ldc_w 282, 3) := dec_2 oX12_passes (of19 _) 1 26 rfl rfl
theorem dX12_passes_20 : decode cX12_passes 20 = .ok (.putfield 311, 3) := dec_2 oX12_passes (of181 _) 1 55 rfl rfl
theorem dX12_passes_23 : decode cX12_passes 23 = .ok (.aload_n 0, 1) := dec_0 oX12_passes (of42 _) rfl
theorem dX12_passes_24 : decode cX12_passes 24 = .ok (.invokevirtual 314, 3) := dec_2 oX12_passes (of182 _) 1 58 rfl rfl
theorem dX12_passes_27 : decode cX12_passes 27 = .ok (.iload_n 3, 1) := dec_0 oX12_passes (of29 _) rfl
theorem dX12_passes_28 : decode cX12_passes 28 = .ok (.if_icmp .lt 5, 3) := dec_s2 oX12_passes (of161 _) 0 5 rfl (sg16p rfl) rfl
theorem dX12_passes_31 : decode cX12_passes 31 = .ok (.iconst 1, 1) := dec_0 oX12_passes (of4 _) rfl
theorem dX12_passes_32 : decode cX12_passes 32 = .ok (.ireturn, 1) := dec_0 oX12_passes (of172 _) rfl
theorem dX12_passes_33 : decode cX12_passes 33 = .ok (.aload_n 0, 1) := dec_0 oX12_passes (of42 _) rfl
theorem dX12_passes_34 : decode cX12_passes 34 = .ok (.invokevirtual 308, 3) := dec_2 oX12_passes (of182 _) 1 52 rfl rfl
theorem dX12_passes_37 : decode cX12_passes 37 = .ok (.iload_n 3, 1) := dec_0 oX12_passes (of29 _) rfl
theorem dX12_passes_38 : decode cX12_passes 38 = .ok (.if_icmp .lt 5, 3) := dec_s2 oX12_passes (of161 _) 0 5 rfl (sg16p rfl) rfl
theorem dX12_passes_41 : decode cX12_passes 41 = .ok (.iconst 2, 1) := dec_0 oX12_passes (of5 _) rfl
theorem dX12_passes_42 : decode cX12_passes 42 = .ok (.ireturn, 1) := dec_0 oX12_passes (of172 _) rfl
theorem dX12_passes_43 : decode cX12_passes 43 = .ok (.aload_n 0, 1) := dec_0 oX12_passes (of42 _) rfl
theorem dX12_passes_44 : decode cX12_passes 44 = .ok (.invokevirtual 317, 3) := dec_2 oX12_passes (of182 _) 1 61 rfl rfl
theorem dX12_passes_47 : decode cX12_passes 47 = .ok (.iload_n 3, 1) := dec_0 oX12_passes (of29 _) rfl
theorem dX12_passes_48 : decode cX12_passes 48 = .ok (.if_icmp .lt 5, 3) := dec_s2 oX12_passes (of161 _) 0 5 rfl (sg16p rfl) rfl
theorem dX12_passes_51 : decode cX12_passes 51 = .ok (.iconst 3, 1) := dec_0 oX12_passes (of6 _) rfl
theorem dX12_passes_52 : decode cX12_passes 52 = .ok (.ireturn, 1) := dec_0 oX12_passes (of172 _) rfl
theorem dX12_passes_53 : decode cX12_passes 53 = .ok (.aload_n 0, 1) := dec_0 oX12_passes (of42 _) rfl
theorem dX12_passes_54 : decode cX12_passes 54 = .ok (.aload_n 0, 1) := dec_0 oX12_passes (of42 _) rfl
theorem dX12_passes_55 : decode cX12_passes 55 = .ok (.iload_n 3, 1) := dec_0 oX12_passes (of29 _) rfl
theorem dX12_passes_56 : decode cX12_passes 56 = .ok (.invokevirtual 304, 3) := dec_2 oX12_passes (of182 _) 1 48 rfl rfl
theorem dX12_passes_59 : decode cX12_passes 59 = .ok (.putfield 311, 3) := dec_2 oX12_passes (of181 _) 1 55 rfl rfl
theorem dX12_passes_62 : decode cX12_passes 62 = .ok (.aload_n 0, 1) := dec_0 oX12_passes (of42 _) rfl
theorem dX12_passes_63 : decode cX12_passes 63 = .ok (.getfield 295, 3) := dec_2 oX12_passes (of180 _) 1 39 rfl rfl
theorem dX12_passes_66 : decode cX12_passes 66 = .ok (.ifCond .lt 7, 3) := dec_s2 oX12_passes (of155 _) 0 7 rfl (sg16p rfl) rfl
theorem dX12_passes_69 : decode cX12_passes 69 = .ok (.iconst 4, 1) := dec_0 oX12_passes (of7 _) rfl
theorem dX12_passes_70 : decode cX12_passes 70 = .ok (.goto 16, 3) := dec_s2 oX12_passes (of167 _) 0 16 rfl (sg16p rfl) rfl
theorem dX12_passes_73 : decode cX12_passes 73 = .ok (.aload_n 0, 1) := dec_0 oX12_passes (of42 _) rfl
theorem dX12_passes_74 : decode cX12_passes 74 = .ok (.getfield 311, 3) := dec_2 oX12_passes (of180 _) 1 55 rfl rfl
theorem dX12_passes_77 : decode cX12_passes 77 = .ok (.iload_n 3, 1) := dec_0 oX12_passes (of29 _) rfl
theorem dX12_passes_78 : decode cX12_passes 78 = .ok (.if_icmp .lt 7, 3) := dec_s2 oX12_passes (of161 _) 0 7 rfl (sg16p rfl) rfl
theorem dX12_passes_81 : decode cX12_passes 81 = .ok (.iconst 5, 1) := dec_0 oX12_passes (of8 _) rfl
theorem dX12_passes_82 : decode cX12_passes 82 = .ok (.goto 4, 3) := dec_s2 oX12_passes (of167 _) 0 4 rfl (sg16p rfl) rfl
theorem dX12_passes_85 : decode cX12_passes 85 = .ok (.iconst 0, 1) := dec_0 oX12_passes (of3 _) rfl
theorem dX12_passes_86 : decode cX12_passes 86 = .ok (.ireturn, 1) := dec_0 oX12_passes (of172 _) rfl
theorem dX12_at_8 : decode cX12_at 8 = .ok (.aload_n 0, 1) := dec_0 oX12_at (of42 _) rfl
theorem dX12_at_9 : decode cX12_at 9 = .ok (.getfield 70, 3) := dec_2 oX12_at (of180 _) 0 70 rfl rfl
theorem dX12_at_12 : decode cX12_at 12 = .ok (.iconst 1, 1) := dec_0 oX12_at (of4 _) rfl
theorem dX12_at_13 : decode cX12_at 13 = .ok (.iload_n 1, 1) := dec_0 oX12_at (of27 _) rfl
theorem dX12_at_14 : decode cX12_at 14 = .ok (.iadd, 1) := dec_0 oX12_at (of96 _) rfl
theorem dX12_at_15 : decode cX12_at 15 = .ok (.iaload, 1) := dec_0 oX12_at (of46 _) rfl
theorem dX12_at_16 : decode cX12_at 16 = .ok (.goto 6, 3) := dec_s2 oX12_at (of167 _) 0 6 rfl (sg16p rfl) rfl
theorem dX12_query_8 : decode cX12_query 8 = .ok (.iload_n 2, 1) := dec_0 oX12_query (of28 _) rfl
theorem dX12_query_9 : decode cX12_query 9 = .ok (.iconst 0, 1) := dec_0 oX12_query (of3 _) rfl
theorem dX12_query_10 : decode cX12_query 10 = .ok (.aload_n 0, 1) := dec_0 oX12_query (of42 _) rfl
theorem dX12_query_11 : decode cX12_query 11 = .ok (.iload_n 1, 1) := dec_0 oX12_query (of27 _) rfl
theorem dX12_query_12 : decode cX12_query 12 = .ok (.invokevirtual 254, 3) := dec_2 oX12_query (of182 _) 0 254 rfl rfl
theorem dX12_query_15 : decode cX12_query 15 = .ok (.iconst 1, 1) := dec_0 oX12_query (of4 _) rfl
theorem dX12_query_16 : decode cX12_query 16 = .ok (.isub, 1) := dec_0 oX12_query (of100 _) rfl
theorem dX12_query_17 : decode cX12_query 17 = .ok (.invokestatic 244, 3) := dec_2 oX12_query (of184 _) 0 244 rfl rfl
theorem dX12_query_20 : decode cX12_query 20 = .ok (.ifCond .eq 24, 3) := dec_s2 oX12_query (of153 _) 0 24 rfl (sg16p rfl) rfl
theorem dX12_query_23 : decode cX12_query 23 = .ok (.aload_n 0, 1) := dec_0 oX12_query (of42 _) rfl
theorem dX12_query_24 : decode cX12_query 24 = .ok (.getfield 55, 3) := dec_2 oX12_query (of180 _) 0 55 rfl rfl
theorem dX12_query_27 : decode cX12_query 27 = .ok (.bipush 16, 2) := dec_s1 oX12_query (of16 _) 16 rfl (sg8p rfl) rfl
theorem dX12_query_29 : decode cX12_query 29 = .ok (.iconst 5, 1) := dec_0 oX12_query (of8 _) rfl
theorem dX12_query_30 : decode cX12_query 30 = .ok (.aload_n 0, 1) := dec_0 oX12_query (of42 _) rfl
theorem dX12_query_31 : decode cX12_query 31 = .ok (.getfield 197, 3) := dec_2 oX12_query (of180 _) 0 197 rfl rfl
theorem dX12_query_34 : decode cX12_query 34 = .ok (.imul, 1) := dec_0 oX12_query (of104 _) rfl
theorem dX12_query_35 : decode cX12_query 35 = .ok (.iload_n 1, 1) := dec_0 oX12_query (of27 _) rfl
theorem dX12_query_36 : decode cX12_query 36 = .ok (.iadd, 1) := dec_0 oX12_query (of96 _) rfl
theorem dX12_query_37 : decode cX12_query 37 = .ok (.imul, 1) := dec_0 oX12_query (of104 _) rfl
theorem dX12_query_38 : decode cX12_query 38 = .ok (.iload_n 2, 1) := dec_0 oX12_query (of28 _) rfl
theorem dX12_query_39 : decode cX12_query 39 = .ok (.iadd, 1) := dec_0 oX12_query (of96 _) rfl
theorem dX12_query_40 : decode cX12_query 40 = .ok (.iaload, 1) := dec_0 oX12_query (of46 _) rfl
theorem dX12_query_41 : decode cX12_query 41 = .ok (.goto 6, 3) := dec_s2 oX12_query (of167 _) 0 6 rfl (sg16p rfl) rfl
theorem dX12_records_9 : decode cX12_records 9 = .ok (.iconst 0, 1) := dec_0 oX12_records (of3 _) rfl
theorem dX12_records_10 : decode cX12_records 10 = .ok (.istore_n 1, 1) := dec_0 oX12_records (of60 _) rfl
theorem dX12_records_11 : decode cX12_records 11 = .ok (.iload_n 1, 1) := dec_0 oX12_records (of27 _) rfl
theorem dX12_records_12 : decode cX12_records 12 = .ok (.sipush 6435, 3) := dec_s2 oX12_records (of17 _) 25 35 rfl (sg16p rfl) rfl
theorem dX12_records_15 : decode cX12_records 15 = .ok (.if_icmp .ge 25, 3) := dec_s2 oX12_records (of162 _) 0 25 rfl (sg16p rfl) rfl
theorem dX12_records_18 : decode cX12_records 18 = .ok (.aload_n 0, 1) := dec_0 oX12_records (of42 _) rfl
theorem dX12_records_19 : decode cX12_records 19 = .ok (.getfield 85, 3) := dec_2 oX12_records (of180 _) 0 85 rfl rfl
theorem dX12_records_22 : decode cX12_records 22 = .ok (.iload_n 1, 1) := dec_0 oX12_records (of27 _) rfl
theorem dX12_records_23 : decode cX12_records 23 = .ok (.aload_n 0, 1) := dec_0 oX12_records (of42 _) rfl
theorem dX12_records_24 : decode cX12_records 24 = .ok (.getfield 85, 3) := dec_2 oX12_records (of180 _) 0 85 rfl rfl
theorem dX12_records_27 : decode cX12_records 27 = .ok (.iload_n 1, 1) := dec_0 oX12_records (of27 _) rfl
theorem dX12_records_28 : decode cX12_records 28 = .ok (.sipush 165, 3) := dec_s2 oX12_records (of17 _) 0 165 rfl (sg16p rfl) rfl
theorem dX12_records_31 : decode cX12_records 31 = .ok (.iadd, 1) := dec_0 oX12_records (of96 _) rfl
theorem dX12_records_32 : decode cX12_records 32 = .ok (.iaload, 1) := dec_0 oX12_records (of46 _) rfl
theorem dX12_records_33 : decode cX12_records 33 = .ok (.iastore, 1) := dec_0 oX12_records (of79 _) rfl
theorem dX12_records_34 : decode cX12_records 34 = .ok (.iinc 1 1, 3) := dec_ii oX12_records (of132 _) 1 1 rfl (sg8p rfl) rfl
theorem dX12_records_37 : decode cX12_records 37 = .ok (.goto (-26), 3) := dec_s2 oX12_records (of167 _) 255 230 rfl (sg16n (k := 26) rfl) rfl
theorem dX12_records_40 : decode cX12_records 40 = .ok (.aload_n 0, 1) := dec_0 oX12_records (of42 _) rfl
theorem dX12_records_41 : decode cX12_records 41 = .ok (.dup, 1) := dec_0 oX12_records (of89 _) rfl
theorem dX12_records_42 : decode cX12_records 42 = .ok (.getfield 209, 3) := dec_2 oX12_records (of180 _) 0 209 rfl rfl
theorem dX12_records_45 : decode cX12_records 45 = .ok (.iconst 1, 1) := dec_0 oX12_records (of4 _) rfl
theorem dX12_records_46 : decode cX12_records 46 = .ok (.isub, 1) := dec_0 oX12_records (of100 _) rfl
theorem dX12_records_47 : decode cX12_records 47 = .ok (.putfield 209, 3) := dec_2 oX12_records (of181 _) 0 209 rfl rfl
theorem dX12_comes_12 : decode cX12_comes 12 = .ok (.iconst (-1), 1) := dec_0 oX12_comes (of2 _) rfl
theorem dX12_comes_13 : decode cX12_comes 13 = .ok (.ireturn, 1) := dec_0 oX12_comes (of172 _) rfl
theorem dX12_mend_8 : decode cX12_mend 8 = .ok (.aload_n 0, 1) := dec_0 oX12_mend (of42 _) rfl
theorem dX12_mend_9 : decode cX12_mend 9 = .ok (.iload_n 1, 1) := dec_0 oX12_mend (of27 _) rfl
theorem dX12_mend_10 : decode cX12_mend 10 = .ok (.invokevirtual 320, 3) := dec_2 oX12_mend (of182 _) 1 64 rfl rfl
theorem dX12_mend_13 : decode cX12_mend 13 = .ok (.ifCond .ne 23, 3) := dec_s2 oX12_mend (of154 _) 0 23 rfl (sg16p rfl) rfl
theorem dX12_mend_16 : decode cX12_mend 16 = .ok (.aload_n 0, 1) := dec_0 oX12_mend (of42 _) rfl
theorem dX12_mend_17 : decode cX12_mend 17 = .ok (.iload_n 1, 1) := dec_0 oX12_mend (of27 _) rfl
theorem dX12_mend_18 : decode cX12_mend 18 = .ok (.iconst 1, 1) := dec_0 oX12_mend (of4 _) rfl
theorem dX12_mend_19 : decode cX12_mend 19 = .ok (.isub, 1) := dec_0 oX12_mend (of100 _) rfl
theorem dX12_mend_20 : decode cX12_mend 20 = .ok (.invokevirtual 320, 3) := dec_2 oX12_mend (of182 _) 1 64 rfl rfl
theorem dX12_mend_23 : decode cX12_mend 23 = .ok (.ifCond .eq 13, 3) := dec_s2 oX12_mend (of153 _) 0 13 rfl (sg16p rfl) rfl
theorem dX12_mend_26 : decode cX12_mend 26 = .ok (.aload_n 0, 1) := dec_0 oX12_mend (of42 _) rfl
theorem dX12_mend_27 : decode cX12_mend 27 = .ok (.iload_n 1, 1) := dec_0 oX12_mend (of27 _) rfl
theorem dX12_mend_28 : decode cX12_mend 28 = .ok (.iconst 1, 1) := dec_0 oX12_mend (of4 _) rfl
theorem dX12_mend_29 : decode cX12_mend 29 = .ok (.iadd, 1) := dec_0 oX12_mend (of96 _) rfl
theorem dX12_mend_30 : decode cX12_mend 30 = .ok (.invokevirtual 320, 3) := dec_2 oX12_mend (of182 _) 1 64 rfl rfl
theorem dX12_mend_33 : decode cX12_mend 33 = .ok (.ifCond .ne 7, 3) := dec_s2 oX12_mend (of154 _) 0 7 rfl (sg16p rfl) rfl
theorem dX12_mend_40 : decode cX12_mend 40 = .ok (.aload_n 0, 1) := dec_0 oX12_mend (of42 _) rfl
theorem dX12_mend_41 : decode cX12_mend 41 = .ok (.invokevirtual 323, 3) := dec_2 oX12_mend (of182 _) 1 67 rfl rfl
theorem dX12_mend_44 : decode cX12_mend 44 = .ok (.aload_n 0, 1) := dec_0 oX12_mend (of42 _) rfl
theorem dX12_mend_45 : decode cX12_mend 45 = .ok (.getfield 73, 3) := dec_2 oX12_mend (of180 _) 0 73 rfl rfl
theorem dX12_mend_48 : decode cX12_mend 48 = .ok (.iconst 1, 1) := dec_0 oX12_mend (of4 _) rfl
theorem dX12_mend_49 : decode cX12_mend 49 = .ok (.iload_n 1, 1) := dec_0 oX12_mend (of27 _) rfl
theorem dX12_mend_50 : decode cX12_mend 50 = .ok (.iadd, 1) := dec_0 oX12_mend (of96 _) rfl
theorem dX12_mend_51 : decode cX12_mend 51 = .ok (.aload_n 0, 1) := dec_0 oX12_mend (of42 _) rfl
theorem dX12_mend_52 : decode cX12_mend 52 = .ok (.getfield 73, 3) := dec_2 oX12_mend (of180 _) 0 73 rfl rfl
theorem dX12_mend_55 : decode cX12_mend 55 = .ok (.iload_n 1, 1) := dec_0 oX12_mend (of27 _) rfl
theorem dX12_mend_56 : decode cX12_mend 56 = .ok (.iaload, 1) := dec_0 oX12_mend (of46 _) rfl
theorem dX12_mend_57 : decode cX12_mend 57 = .ok (.aload_n 0, 1) := dec_0 oX12_mend (of42 _) rfl
theorem dX12_mend_58 : decode cX12_mend 58 = .ok (.getfield 73, 3) := dec_2 oX12_mend (of180 _) 0 73 rfl rfl
theorem dX12_mend_61 : decode cX12_mend 61 = .ok (.iconst 2, 1) := dec_0 oX12_mend (of5 _) rfl
theorem dX12_mend_62 : decode cX12_mend 62 = .ok (.iload_n 1, 1) := dec_0 oX12_mend (of27 _) rfl
theorem dX12_mend_63 : decode cX12_mend 63 = .ok (.iadd, 1) := dec_0 oX12_mend (of96 _) rfl
theorem dX12_mend_64 : decode cX12_mend 64 = .ok (.iaload, 1) := dec_0 oX12_mend (of46 _) rfl
theorem dX12_mend_65 : decode cX12_mend 65 = .ok (.iadd, 1) := dec_0 oX12_mend (of96 _) rfl
theorem dX12_mend_66 : decode cX12_mend 66 = .ok (.iconst 2, 1) := dec_0 oX12_mend (of5 _) rfl
theorem dX12_mend_67 : decode cX12_mend 67 = .ok (.invokestatic 261, 3) := dec_2 oX12_mend (of184 _) 1 5 rfl rfl
theorem dX12_mend_70 : decode cX12_mend 70 = .ok (.iastore, 1) := dec_0 oX12_mend (of79 _) rfl
theorem dX12_mend_71 : decode cX12_mend 71 = .ok (.aload_n 0, 1) := dec_0 oX12_mend (of42 _) rfl
theorem dX12_mend_72 : decode cX12_mend 72 = .ok (.invokevirtual 326, 3) := dec_2 oX12_mend (of182 _) 1 70 rfl rfl
theorem dX12_mend_75 : decode cX12_mend 75 = .ok (.aload_n 0, 1) := dec_0 oX12_mend (of42 _) rfl
theorem dX12_mend_76 : decode cX12_mend 76 = .ok (.getfield 70, 3) := dec_2 oX12_mend (of180 _) 0 70 rfl rfl
theorem dX12_mend_79 : decode cX12_mend 79 = .ok (.iconst 1, 1) := dec_0 oX12_mend (of4 _) rfl
theorem dX12_mend_80 : decode cX12_mend 80 = .ok (.iload_n 1, 1) := dec_0 oX12_mend (of27 _) rfl
theorem dX12_mend_81 : decode cX12_mend 81 = .ok (.iadd, 1) := dec_0 oX12_mend (of96 _) rfl
theorem dX12_mend_82 : decode cX12_mend 82 = .ok (.iaload, 1) := dec_0 oX12_mend (of46 _) rfl
theorem dX12_mend_83 : decode cX12_mend 83 = .ok (.ireturn, 1) := dec_0 oX12_mend (of172 _) rfl
theorem dX12_drop_16 : decode cX12_drop 16 = .ok (.aload_n 0, 1) := dec_0 oX12_drop (of42 _) rfl
theorem dX12_drop_17 : decode cX12_drop 17 = .ok (.invokevirtual 323, 3) := dec_2 oX12_drop (of182 _) 1 67 rfl rfl
theorem dX12_drop_20 : decode cX12_drop 20 = .ok (.iconst 0, 1) := dec_0 oX12_drop (of3 _) rfl
theorem dX12_drop_21 : decode cX12_drop 21 = .ok (.istore_n 2, 1) := dec_0 oX12_drop (of61 _) rfl
theorem dX12_drop_22 : decode cX12_drop 22 = .ok (.iload_n 2, 1) := dec_0 oX12_drop (of28 _) rfl
theorem dX12_drop_23 : decode cX12_drop 23 = .ok (.sipush 160, 3) := dec_s2 oX12_drop (of17 _) 0 160 rfl (sg16p rfl) rfl
theorem dX12_drop_26 : decode cX12_drop 26 = .ok (.if_icmp .ge 43, 3) := dec_s2 oX12_drop (of162 _) 0 43 rfl (sg16p rfl) rfl
theorem dX12_drop_29 : decode cX12_drop 29 = .ok (.aload_n 0, 1) := dec_0 oX12_drop (of42 _) rfl
theorem dX12_drop_30 : decode cX12_drop 30 = .ok (.getfield 73, 3) := dec_2 oX12_drop (of180 _) 0 73 rfl rfl
theorem dX12_drop_33 : decode cX12_drop 33 = .ok (.iconst 1, 1) := dec_0 oX12_drop (of4 _) rfl
theorem dX12_drop_34 : decode cX12_drop 34 = .ok (.iload_n 2, 1) := dec_0 oX12_drop (of28 _) rfl
theorem dX12_drop_35 : decode cX12_drop 35 = .ok (.iadd, 1) := dec_0 oX12_drop (of96 _) rfl
theorem dX12_drop_36 : decode cX12_drop 36 = .ok (.iload_n 2, 1) := dec_0 oX12_drop (of28 _) rfl
theorem dX12_drop_37 : decode cX12_drop 37 = .ok (.iload_n 1, 1) := dec_0 oX12_drop (of27 _) rfl
theorem dX12_drop_38 : decode cX12_drop 38 = .ok (.iadd, 1) := dec_0 oX12_drop (of96 _) rfl
theorem dX12_drop_39 : decode cX12_drop 39 = .ok (.aload_n 0, 1) := dec_0 oX12_drop (of42 _) rfl
theorem dX12_drop_40 : decode cX12_drop 40 = .ok (.getfield 70, 3) := dec_2 oX12_drop (of180 _) 0 70 rfl rfl
theorem dX12_drop_43 : decode cX12_drop 43 = .ok (.iconst 0, 1) := dec_0 oX12_drop (of3 _) rfl
theorem dX12_drop_44 : decode cX12_drop 44 = .ok (.iaload, 1) := dec_0 oX12_drop (of46 _) rfl
theorem dX12_drop_45 : decode cX12_drop 45 = .ok (.if_icmp .ge 16, 3) := dec_s2 oX12_drop (of162 _) 0 16 rfl (sg16p rfl) rfl
theorem dX12_drop_48 : decode cX12_drop 48 = .ok (.aload_n 0, 1) := dec_0 oX12_drop (of42 _) rfl
theorem dX12_drop_49 : decode cX12_drop 49 = .ok (.getfield 70, 3) := dec_2 oX12_drop (of180 _) 0 70 rfl rfl
theorem dX12_drop_52 : decode cX12_drop 52 = .ok (.iconst 1, 1) := dec_0 oX12_drop (of4 _) rfl
theorem dX12_drop_53 : decode cX12_drop 53 = .ok (.iload_n 2, 1) := dec_0 oX12_drop (of28 _) rfl
theorem dX12_drop_54 : decode cX12_drop 54 = .ok (.iadd, 1) := dec_0 oX12_drop (of96 _) rfl
theorem dX12_drop_55 : decode cX12_drop 55 = .ok (.iload_n 1, 1) := dec_0 oX12_drop (of27 _) rfl
theorem dX12_drop_56 : decode cX12_drop 56 = .ok (.iadd, 1) := dec_0 oX12_drop (of96 _) rfl
theorem dX12_drop_57 : decode cX12_drop 57 = .ok (.iaload, 1) := dec_0 oX12_drop (of46 _) rfl
theorem dX12_drop_58 : decode cX12_drop 58 = .ok (.goto 4, 3) := dec_s2 oX12_drop (of167 _) 0 4 rfl (sg16p rfl) rfl
theorem dX12_drop_61 : decode cX12_drop 61 = .ok (.iconst 0, 1) := dec_0 oX12_drop (of3 _) rfl
theorem dX12_drop_62 : decode cX12_drop 62 = .ok (.iastore, 1) := dec_0 oX12_drop (of79 _) rfl
theorem dX12_drop_63 : decode cX12_drop 63 = .ok (.iinc 2 1, 3) := dec_ii oX12_drop (of132 _) 2 1 rfl (sg8p rfl) rfl
theorem dX12_drop_66 : decode cX12_drop 66 = .ok (.goto (-44), 3) := dec_s2 oX12_drop (of167 _) 255 212 rfl (sg16n (k := 44) rfl) rfl
theorem dX12_drop_69 : decode cX12_drop 69 = .ok (.aload_n 0, 1) := dec_0 oX12_drop (of42 _) rfl
theorem dX12_drop_70 : decode cX12_drop 70 = .ok (.getfield 73, 3) := dec_2 oX12_drop (of180 _) 0 73 rfl rfl
theorem dX12_drop_73 : decode cX12_drop 73 = .ok (.iconst 0, 1) := dec_0 oX12_drop (of3 _) rfl
theorem dX12_drop_74 : decode cX12_drop 74 = .ok (.dup2, 1) := dec_0 oX12_drop (of92 _) rfl
theorem dX12_drop_75 : decode cX12_drop 75 = .ok (.iaload, 1) := dec_0 oX12_drop (of46 _) rfl
theorem dX12_drop_76 : decode cX12_drop 76 = .ok (.iload_n 1, 1) := dec_0 oX12_drop (of27 _) rfl
theorem dX12_drop_77 : decode cX12_drop 77 = .ok (.isub, 1) := dec_0 oX12_drop (of100 _) rfl
theorem dX12_drop_78 : decode cX12_drop 78 = .ok (.iastore, 1) := dec_0 oX12_drop (of79 _) rfl
theorem dX12_drop_79 : decode cX12_drop 79 = .ok (.aload_n 0, 1) := dec_0 oX12_drop (of42 _) rfl
theorem dX12_drop_80 : decode cX12_drop 80 = .ok (.invokevirtual 326, 3) := dec_2 oX12_drop (of182 _) 1 70 rfl rfl
theorem dX12_drop_83 : decode cX12_drop 83 = .ok (.iconst 1, 1) := dec_0 oX12_drop (of4 _) rfl
theorem dX12_drop_84 : decode cX12_drop 84 = .ok (.ireturn, 1) := dec_0 oX12_drop (of172 _) rfl
theorem dX12_undo_9 : decode cX12_undo 9 = .ok (.aload_n 0, 1) := dec_0 oX12_undo (of42 _) rfl
theorem dX12_undo_10 : decode cX12_undo 10 = .ok (.dup, 1) := dec_0 oX12_undo (of89 _) rfl
theorem dX12_undo_11 : decode cX12_undo 11 = .ok (.getfield 209, 3) := dec_2 oX12_undo (of180 _) 0 209 rfl rfl
theorem dX12_undo_14 : decode cX12_undo 14 = .ok (.iconst 1, 1) := dec_0 oX12_undo (of4 _) rfl
theorem dX12_undo_15 : decode cX12_undo 15 = .ok (.isub, 1) := dec_0 oX12_undo (of100 _) rfl
theorem dX12_undo_16 : decode cX12_undo 16 = .ok (.putfield 209, 3) := dec_2 oX12_undo (of181 _) 0 209 rfl rfl
theorem dX12_undo_19 : decode cX12_undo 19 = .ok (.iconst 0, 1) := dec_0 oX12_undo (of3 _) rfl
theorem dX12_undo_20 : decode cX12_undo 20 = .ok (.istore_n 1, 1) := dec_0 oX12_undo (of60 _) rfl
theorem dX12_undo_21 : decode cX12_undo 21 = .ok (.iload_n 1, 1) := dec_0 oX12_undo (of27 _) rfl
theorem dX12_undo_22 : decode cX12_undo 22 = .ok (.sipush 165, 3) := dec_s2 oX12_undo (of17 _) 0 165 rfl (sg16p rfl) rfl
theorem dX12_undo_25 : decode cX12_undo 25 = .ok (.if_icmp .ge 30, 3) := dec_s2 oX12_undo (of162 _) 0 30 rfl (sg16p rfl) rfl
theorem dX12_undo_28 : decode cX12_undo 28 = .ok (.aload_n 0, 1) := dec_0 oX12_undo (of42 _) rfl
theorem dX12_undo_29 : decode cX12_undo 29 = .ok (.getfield 70, 3) := dec_2 oX12_undo (of180 _) 0 70 rfl rfl
theorem dX12_undo_32 : decode cX12_undo 32 = .ok (.iload_n 1, 1) := dec_0 oX12_undo (of27 _) rfl
theorem dX12_undo_33 : decode cX12_undo 33 = .ok (.aload_n 0, 1) := dec_0 oX12_undo (of42 _) rfl
theorem dX12_undo_34 : decode cX12_undo 34 = .ok (.getfield 85, 3) := dec_2 oX12_undo (of180 _) 0 85 rfl rfl
theorem dX12_undo_37 : decode cX12_undo 37 = .ok (.sipush 165, 3) := dec_s2 oX12_undo (of17 _) 0 165 rfl (sg16p rfl) rfl
theorem dX12_undo_40 : decode cX12_undo 40 = .ok (.aload_n 0, 1) := dec_0 oX12_undo (of42 _) rfl
theorem dX12_undo_41 : decode cX12_undo 41 = .ok (.getfield 209, 3) := dec_2 oX12_undo (of180 _) 0 209 rfl rfl
theorem dX12_undo_44 : decode cX12_undo 44 = .ok (.imul, 1) := dec_0 oX12_undo (of104 _) rfl
theorem dX12_undo_45 : decode cX12_undo 45 = .ok (.iload_n 1, 1) := dec_0 oX12_undo (of27 _) rfl
theorem dX12_undo_46 : decode cX12_undo 46 = .ok (.iadd, 1) := dec_0 oX12_undo (of96 _) rfl
theorem dX12_undo_47 : decode cX12_undo 47 = .ok (.iaload, 1) := dec_0 oX12_undo (of46 _) rfl
theorem dX12_undo_48 : decode cX12_undo 48 = .ok (.iastore, 1) := dec_0 oX12_undo (of79 _) rfl
theorem dX12_undo_49 : decode cX12_undo 49 = .ok (.iinc 1 1, 3) := dec_ii oX12_undo (of132 _) 1 1 rfl (sg8p rfl) rfl
end
section
theorem dX12_undo_52 : decode cX12_undo 52 = .ok (.goto (-31), 3) := dec_s2 oX12_undo (of167 _) 255 225 rfl (sg16n (k := 31) rfl) rfl
theorem dX12_undo_55 : decode cX12_undo 55 = .ok (.iconst 1, 1) := dec_0 oX12_undo (of4 _) rfl
theorem dX12_undo_56 : decode cX12_undo 56 = .ok (.ireturn, 1) := dec_0 oX12_undo (of172 _) rfl
theorem dX12_sumOf_0 : decode cX12_sumOf 0 = .ok (.iconst 0, 1) := dec_0 oX12_sumOf (of3 _) rfl
theorem dX12_sumOf_1 : decode cX12_sumOf 1 = .ok (.istore_n 3, 1) := dec_0 oX12_sumOf (of62 _) rfl
theorem dX12_sumOf_2 : decode cX12_sumOf 2 = .ok (.iload_n 1, 1) := dec_0 oX12_sumOf (of27 _) rfl
theorem dX12_sumOf_3 : decode cX12_sumOf 3 = .ok (.istore 4, 2) := dec_1 oX12_sumOf (of54 _) 4 rfl rfl
theorem dX12_sumOf_5 : decode cX12_sumOf 5 = .ok (.iload 4, 2) := dec_1 oX12_sumOf (of21 _) 4 rfl rfl
theorem dX12_sumOf_7 : decode cX12_sumOf 7 = .ok (.iload_n 1, 1) := dec_0 oX12_sumOf (of27 _) rfl
theorem dX12_sumOf_8 : decode cX12_sumOf 8 = .ok (.iload_n 2, 1) := dec_0 oX12_sumOf (of28 _) rfl
theorem dX12_sumOf_9 : decode cX12_sumOf 9 = .ok (.iadd, 1) := dec_0 oX12_sumOf (of96 _) rfl
theorem dX12_sumOf_10 : decode cX12_sumOf 10 = .ok (.if_icmp .ge 21, 3) := dec_s2 oX12_sumOf (of162 _) 0 21 rfl (sg16p rfl) rfl
theorem dX12_sumOf_13 : decode cX12_sumOf 13 = .ok (.iload_n 3, 1) := dec_0 oX12_sumOf (of29 _) rfl
theorem dX12_sumOf_14 : decode cX12_sumOf 14 = .ok (.aload_n 0, 1) := dec_0 oX12_sumOf (of42 _) rfl
theorem dX12_sumOf_15 : decode cX12_sumOf 15 = .ok (.getfield 70, 3) := dec_2 oX12_sumOf (of180 _) 0 70 rfl rfl
theorem dX12_sumOf_18 : decode cX12_sumOf 18 = .ok (.iconst 1, 1) := dec_0 oX12_sumOf (of4 _) rfl
theorem dX12_sumOf_19 : decode cX12_sumOf 19 = .ok (.iload 4, 2) := dec_1 oX12_sumOf (of21 _) 4 rfl rfl
theorem dX12_sumOf_21 : decode cX12_sumOf 21 = .ok (.iadd, 1) := dec_0 oX12_sumOf (of96 _) rfl
theorem dX12_sumOf_22 : decode cX12_sumOf 22 = .ok (.iaload, 1) := dec_0 oX12_sumOf (of46 _) rfl
theorem dX12_sumOf_23 : decode cX12_sumOf 23 = .ok (.iadd, 1) := dec_0 oX12_sumOf (of96 _) rfl
theorem dX12_sumOf_24 : decode cX12_sumOf 24 = .ok (.istore_n 3, 1) := dec_0 oX12_sumOf (of62 _) rfl
theorem dX12_sumOf_25 : decode cX12_sumOf 25 = .ok (.iinc 4 1, 3) := dec_ii oX12_sumOf (of132 _) 4 1 rfl (sg8p rfl) rfl
theorem dX12_sumOf_28 : decode cX12_sumOf 28 = .ok (.goto (-23), 3) := dec_s2 oX12_sumOf (of167 _) 255 233 rfl (sg16n (k := 23) rfl) rfl
theorem dX12_sumOf_31 : decode cX12_sumOf 31 = .ok (.iload_n 3, 1) := dec_0 oX12_sumOf (of29 _) rfl
theorem dX12_sumOf_32 : decode cX12_sumOf 32 = .ok (.ireturn, 1) := dec_0 oX12_sumOf (of172 _) rfl
theorem dX12_leastOf_0 : decode cX12_leastOf 0 = .ok (.aload_n 0, 1) := dec_0 oX12_leastOf (of42 _) rfl
theorem dX12_leastOf_1 : decode cX12_leastOf 1 = .ok (.getfield 70, 3) := dec_2 oX12_leastOf (of180 _) 0 70 rfl rfl
theorem dX12_leastOf_4 : decode cX12_leastOf 4 = .ok (.iconst 1, 1) := dec_0 oX12_leastOf (of4 _) rfl
theorem dX12_leastOf_5 : decode cX12_leastOf 5 = .ok (.iload_n 1, 1) := dec_0 oX12_leastOf (of27 _) rfl
theorem dX12_leastOf_6 : decode cX12_leastOf 6 = .ok (.iadd, 1) := dec_0 oX12_leastOf (of96 _) rfl
theorem dX12_leastOf_7 : decode cX12_leastOf 7 = .ok (.iaload, 1) := dec_0 oX12_leastOf (of46 _) rfl
theorem dX12_leastOf_8 : decode cX12_leastOf 8 = .ok (.istore_n 3, 1) := dec_0 oX12_leastOf (of62 _) rfl
theorem dX12_leastOf_9 : decode cX12_leastOf 9 = .ok (.iload_n 1, 1) := dec_0 oX12_leastOf (of27 _) rfl
theorem dX12_leastOf_10 : decode cX12_leastOf 10 = .ok (.istore 4, 2) := dec_1 oX12_leastOf (of54 _) 4 rfl rfl
theorem dX12_leastOf_12 : decode cX12_leastOf 12 = .ok (.iload 4, 2) := dec_1 oX12_leastOf (of21 _) 4 rfl rfl
theorem dX12_leastOf_14 : decode cX12_leastOf 14 = .ok (.iload_n 1, 1) := dec_0 oX12_leastOf (of27 _) rfl
theorem dX12_leastOf_15 : decode cX12_leastOf 15 = .ok (.iload_n 2, 1) := dec_0 oX12_leastOf (of28 _) rfl
theorem dX12_leastOf_16 : decode cX12_leastOf 16 = .ok (.iadd, 1) := dec_0 oX12_leastOf (of96 _) rfl
theorem dX12_leastOf_17 : decode cX12_leastOf 17 = .ok (.if_icmp .ge 32, 3) := dec_s2 oX12_leastOf (of162 _) 0 32 rfl (sg16p rfl) rfl
theorem dX12_leastOf_20 : decode cX12_leastOf 20 = .ok (.aload_n 0, 1) := dec_0 oX12_leastOf (of42 _) rfl
theorem dX12_leastOf_21 : decode cX12_leastOf 21 = .ok (.getfield 70, 3) := dec_2 oX12_leastOf (of180 _) 0 70 rfl rfl
theorem dX12_leastOf_24 : decode cX12_leastOf 24 = .ok (.iconst 1, 1) := dec_0 oX12_leastOf (of4 _) rfl
theorem dX12_leastOf_25 : decode cX12_leastOf 25 = .ok (.iload 4, 2) := dec_1 oX12_leastOf (of21 _) 4 rfl rfl
theorem dX12_leastOf_27 : decode cX12_leastOf 27 = .ok (.iadd, 1) := dec_0 oX12_leastOf (of96 _) rfl
theorem dX12_leastOf_28 : decode cX12_leastOf 28 = .ok (.iaload, 1) := dec_0 oX12_leastOf (of46 _) rfl
theorem dX12_leastOf_29 : decode cX12_leastOf 29 = .ok (.iload_n 3, 1) := dec_0 oX12_leastOf (of29 _) rfl
theorem dX12_leastOf_30 : decode cX12_leastOf 30 = .ok (.if_icmp .ge 13, 3) := dec_s2 oX12_leastOf (of162 _) 0 13 rfl (sg16p rfl) rfl
theorem dX12_leastOf_33 : decode cX12_leastOf 33 = .ok (.aload_n 0, 1) := dec_0 oX12_leastOf (of42 _) rfl
theorem dX12_leastOf_34 : decode cX12_leastOf 34 = .ok (.getfield 70, 3) := dec_2 oX12_leastOf (of180 _) 0 70 rfl rfl
theorem dX12_leastOf_37 : decode cX12_leastOf 37 = .ok (.iconst 1, 1) := dec_0 oX12_leastOf (of4 _) rfl
theorem dX12_leastOf_38 : decode cX12_leastOf 38 = .ok (.iload 4, 2) := dec_1 oX12_leastOf (of21 _) 4 rfl rfl
theorem dX12_leastOf_40 : decode cX12_leastOf 40 = .ok (.iadd, 1) := dec_0 oX12_leastOf (of96 _) rfl
theorem dX12_leastOf_41 : decode cX12_leastOf 41 = .ok (.iaload, 1) := dec_0 oX12_leastOf (of46 _) rfl
theorem dX12_leastOf_42 : decode cX12_leastOf 42 = .ok (.istore_n 3, 1) := dec_0 oX12_leastOf (of62 _) rfl
theorem dX12_leastOf_43 : decode cX12_leastOf 43 = .ok (.iinc 4 1, 3) := dec_ii oX12_leastOf (of132 _) 4 1 rfl (sg8p rfl) rfl
theorem dX12_leastOf_46 : decode cX12_leastOf 46 = .ok (.goto (-34), 3) := dec_s2 oX12_leastOf (of167 _) 255 222 rfl (sg16n (k := 34) rfl) rfl
theorem dX12_leastOf_49 : decode cX12_leastOf 49 = .ok (.iload_n 3, 1) := dec_0 oX12_leastOf (of29 _) rfl
theorem dX12_leastOf_50 : decode cX12_leastOf 50 = .ok (.ireturn, 1) := dec_0 oX12_leastOf (of172 _) rfl
theorem dX12_mostOf_0 : decode cX12_mostOf 0 = .ok (.aload_n 0, 1) := dec_0 oX12_mostOf (of42 _) rfl
theorem dX12_mostOf_1 : decode cX12_mostOf 1 = .ok (.getfield 70, 3) := dec_2 oX12_mostOf (of180 _) 0 70 rfl rfl
theorem dX12_mostOf_4 : decode cX12_mostOf 4 = .ok (.iconst 1, 1) := dec_0 oX12_mostOf (of4 _) rfl
theorem dX12_mostOf_5 : decode cX12_mostOf 5 = .ok (.iload_n 1, 1) := dec_0 oX12_mostOf (of27 _) rfl
theorem dX12_mostOf_6 : decode cX12_mostOf 6 = .ok (.iadd, 1) := dec_0 oX12_mostOf (of96 _) rfl
theorem dX12_mostOf_7 : decode cX12_mostOf 7 = .ok (.iaload, 1) := dec_0 oX12_mostOf (of46 _) rfl
theorem dX12_mostOf_8 : decode cX12_mostOf 8 = .ok (.istore_n 3, 1) := dec_0 oX12_mostOf (of62 _) rfl
theorem dX12_mostOf_9 : decode cX12_mostOf 9 = .ok (.iload_n 1, 1) := dec_0 oX12_mostOf (of27 _) rfl
theorem dX12_mostOf_10 : decode cX12_mostOf 10 = .ok (.istore 4, 2) := dec_1 oX12_mostOf (of54 _) 4 rfl rfl
theorem dX12_mostOf_12 : decode cX12_mostOf 12 = .ok (.iload 4, 2) := dec_1 oX12_mostOf (of21 _) 4 rfl rfl
theorem dX12_mostOf_14 : decode cX12_mostOf 14 = .ok (.iload_n 1, 1) := dec_0 oX12_mostOf (of27 _) rfl
theorem dX12_mostOf_15 : decode cX12_mostOf 15 = .ok (.iload_n 2, 1) := dec_0 oX12_mostOf (of28 _) rfl
theorem dX12_mostOf_16 : decode cX12_mostOf 16 = .ok (.iadd, 1) := dec_0 oX12_mostOf (of96 _) rfl
theorem dX12_mostOf_17 : decode cX12_mostOf 17 = .ok (.if_icmp .ge 32, 3) := dec_s2 oX12_mostOf (of162 _) 0 32 rfl (sg16p rfl) rfl
theorem dX12_mostOf_20 : decode cX12_mostOf 20 = .ok (.aload_n 0, 1) := dec_0 oX12_mostOf (of42 _) rfl
theorem dX12_mostOf_21 : decode cX12_mostOf 21 = .ok (.getfield 70, 3) := dec_2 oX12_mostOf (of180 _) 0 70 rfl rfl
theorem dX12_mostOf_24 : decode cX12_mostOf 24 = .ok (.iconst 1, 1) := dec_0 oX12_mostOf (of4 _) rfl
theorem dX12_mostOf_25 : decode cX12_mostOf 25 = .ok (.iload 4, 2) := dec_1 oX12_mostOf (of21 _) 4 rfl rfl
theorem dX12_mostOf_27 : decode cX12_mostOf 27 = .ok (.iadd, 1) := dec_0 oX12_mostOf (of96 _) rfl
theorem dX12_mostOf_28 : decode cX12_mostOf 28 = .ok (.iaload, 1) := dec_0 oX12_mostOf (of46 _) rfl
theorem dX12_mostOf_29 : decode cX12_mostOf 29 = .ok (.iload_n 3, 1) := dec_0 oX12_mostOf (of29 _) rfl
theorem dX12_mostOf_30 : decode cX12_mostOf 30 = .ok (.if_icmp .le 13, 3) := dec_s2 oX12_mostOf (of164 _) 0 13 rfl (sg16p rfl) rfl
theorem dX12_mostOf_33 : decode cX12_mostOf 33 = .ok (.aload_n 0, 1) := dec_0 oX12_mostOf (of42 _) rfl
theorem dX12_mostOf_34 : decode cX12_mostOf 34 = .ok (.getfield 70, 3) := dec_2 oX12_mostOf (of180 _) 0 70 rfl rfl
theorem dX12_mostOf_37 : decode cX12_mostOf 37 = .ok (.iconst 1, 1) := dec_0 oX12_mostOf (of4 _) rfl
theorem dX12_mostOf_38 : decode cX12_mostOf 38 = .ok (.iload 4, 2) := dec_1 oX12_mostOf (of21 _) 4 rfl rfl
theorem dX12_mostOf_40 : decode cX12_mostOf 40 = .ok (.iadd, 1) := dec_0 oX12_mostOf (of96 _) rfl
theorem dX12_mostOf_41 : decode cX12_mostOf 41 = .ok (.iaload, 1) := dec_0 oX12_mostOf (of46 _) rfl
theorem dX12_mostOf_42 : decode cX12_mostOf 42 = .ok (.istore_n 3, 1) := dec_0 oX12_mostOf (of62 _) rfl
theorem dX12_mostOf_43 : decode cX12_mostOf 43 = .ok (.iinc 4 1, 3) := dec_ii oX12_mostOf (of132 _) 4 1 rfl (sg8p rfl) rfl
theorem dX12_mostOf_46 : decode cX12_mostOf 46 = .ok (.goto (-34), 3) := dec_s2 oX12_mostOf (of167 _) 255 222 rfl (sg16n (k := 34) rfl) rfl
theorem dX12_mostOf_49 : decode cX12_mostOf 49 = .ok (.iload_n 3, 1) := dec_0 oX12_mostOf (of29 _) rfl
theorem dX12_mostOf_50 : decode cX12_mostOf 50 = .ok (.ireturn, 1) := dec_0 oX12_mostOf (of172 _) rfl
theorem dX12_window_13 : decode cX12_window 13 = .ok (.iload_n 3, 1) := dec_0 oX12_window (of29 _) rfl
theorem dX12_window_14 : decode cX12_window 14 = .ok (.tableswitch 62 0 3 #[30, 37, 44, 51], 30) := by decide +kernel
theorem dX12_window_44 : decode cX12_window 44 = .ok (.aload_n 0, 1) := dec_0 oX12_window (of42 _) rfl
theorem dX12_window_45 : decode cX12_window 45 = .ok (.iload_n 1, 1) := dec_0 oX12_window (of27 _) rfl
theorem dX12_window_46 : decode cX12_window 46 = .ok (.iload_n 2, 1) := dec_0 oX12_window (of28 _) rfl
theorem dX12_window_47 : decode cX12_window 47 = .ok (.invokevirtual 333, 3) := dec_2 oX12_window (of182 _) 1 77 rfl rfl
theorem dX12_window_50 : decode cX12_window 50 = .ok (.ireturn, 1) := dec_0 oX12_window (of172 _) rfl
theorem dX12_window_51 : decode cX12_window 51 = .ok (.aload_n 0, 1) := dec_0 oX12_window (of42 _) rfl
theorem dX12_window_52 : decode cX12_window 52 = .ok (.iload_n 1, 1) := dec_0 oX12_window (of27 _) rfl
theorem dX12_window_53 : decode cX12_window 53 = .ok (.iload_n 2, 1) := dec_0 oX12_window (of28 _) rfl
theorem dX12_window_54 : decode cX12_window 54 = .ok (.invokevirtual 336, 3) := dec_2 oX12_window (of182 _) 1 80 rfl rfl
theorem dX12_window_57 : decode cX12_window 57 = .ok (.ireturn, 1) := dec_0 oX12_window (of172 _) rfl
theorem dX12_window_58 : decode cX12_window 58 = .ok (.aload_n 0, 1) := dec_0 oX12_window (of42 _) rfl
theorem dX12_window_59 : decode cX12_window 59 = .ok (.iload_n 1, 1) := dec_0 oX12_window (of27 _) rfl
theorem dX12_window_60 : decode cX12_window 60 = .ok (.iload_n 2, 1) := dec_0 oX12_window (of28 _) rfl
theorem dX12_window_61 : decode cX12_window 61 = .ok (.invokevirtual 339, 3) := dec_2 oX12_window (of182 _) 1 83 rfl rfl
theorem dX12_window_64 : decode cX12_window 64 = .ok (.ireturn, 1) := dec_0 oX12_window (of172 _) rfl
theorem dX12_window_65 : decode cX12_window 65 = .ok (.aload_n 0, 1) := dec_0 oX12_window (of42 _) rfl
theorem dX12_window_66 : decode cX12_window 66 = .ok (.iload_n 1, 1) := dec_0 oX12_window (of27 _) rfl
theorem dX12_window_67 : decode cX12_window 67 = .ok (.iload_n 2, 1) := dec_0 oX12_window (of28 _) rfl
theorem dX12_window_68 : decode cX12_window 68 = .ok (.invokevirtual 333, 3) := dec_2 oX12_window (of182 _) 1 77 rfl rfl
theorem dX12_window_71 : decode cX12_window 71 = .ok (.iload_n 2, 1) := dec_0 oX12_window (of28 _) rfl
theorem dX12_window_72 : decode cX12_window 72 = .ok (.invokestatic 261, 3) := dec_2 oX12_window (of184 _) 1 5 rfl rfl
theorem dX12_window_75 : decode cX12_window 75 = .ok (.ireturn, 1) := dec_0 oX12_window (of172 _) rfl
theorem dX12_window_76 : decode cX12_window 76 = .ok (.ldc_w 332, 3) := dec_2 oX12_window (of19 _) 1 76 rfl rfl
theorem dX12_window_79 : decode cX12_window 79 = .ok (.ireturn, 1) := dec_0 oX12_window (of172 _) rfl
theorem dX12_level_19 : decode cX12_level 19 = .ok (.iload_n 3, 1) := dec_0 oX12_level (of29 _) rfl
theorem dX12_level_20 : decode cX12_level 20 = .ok (.iconst 0, 1) := dec_0 oX12_level (of3 _) rfl
theorem dX12_level_21 : decode cX12_level 21 = .ok (.iload_n 2, 1) := dec_0 oX12_level (of28 _) rfl
theorem dX12_level_22 : decode cX12_level 22 = .ok (.iconst 1, 1) := dec_0 oX12_level (of4 _) rfl
theorem dX12_level_23 : decode cX12_level 23 = .ok (.isub, 1) := dec_0 oX12_level (of100 _) rfl
theorem dX12_level_24 : decode cX12_level 24 = .ok (.invokestatic 244, 3) := dec_2 oX12_level (of184 _) 0 244 rfl rfl
theorem dX12_level_27 : decode cX12_level 27 = .ok (.ifCond .ne 7, 3) := dec_s2 oX12_level (of154 _) 0 7 rfl (sg16p rfl) rfl
theorem dX12_level_34 : decode cX12_level 34 = .ok (.aload_n 0, 1) := dec_0 oX12_level (of42 _) rfl
theorem dX12_level_35 : decode cX12_level 35 = .ok (.invokevirtual 323, 3) := dec_2 oX12_level (of182 _) 1 67 rfl rfl
theorem dX12_level_38 : decode cX12_level 38 = .ok (.aload_n 0, 1) := dec_0 oX12_level (of42 _) rfl
theorem dX12_level_39 : decode cX12_level 39 = .ok (.iload_n 1, 1) := dec_0 oX12_level (of27 _) rfl
theorem dX12_level_40 : decode cX12_level 40 = .ok (.iload_n 2, 1) := dec_0 oX12_level (of28 _) rfl
theorem dX12_level_41 : decode cX12_level 41 = .ok (.invokevirtual 270, 3) := dec_2 oX12_level (of182 _) 1 14 rfl rfl
theorem dX12_level_44 : decode cX12_level 44 = .ok (.aload_n 0, 1) := dec_0 oX12_level (of42 _) rfl
theorem dX12_level_45 : decode cX12_level 45 = .ok (.getfield 76, 3) := dec_2 oX12_level (of180 _) 0 76 rfl rfl
theorem dX12_level_48 : decode cX12_level 48 = .ok (.iload_n 3, 1) := dec_0 oX12_level (of29 _) rfl
theorem dX12_level_49 : decode cX12_level 49 = .ok (.iaload, 1) := dec_0 oX12_level (of46 _) rfl
theorem dX12_level_50 : decode cX12_level 50 = .ok (.ireturn, 1) := dec_0 oX12_level (of172 _) rfl
theorem dX12_flat_27 : decode cX12_flat 27 = .ok (.aload_n 0, 1) := dec_0 oX12_flat (of42 _) rfl
theorem dX12_flat_28 : decode cX12_flat 28 = .ok (.iload_n 3, 1) := dec_0 oX12_flat (of29 _) rfl
theorem dX12_flat_29 : decode cX12_flat 29 = .ok (.iload_n 1, 1) := dec_0 oX12_flat (of27 _) rfl
theorem dX12_flat_30 : decode cX12_flat 30 = .ok (.invokevirtual 257, 3) := dec_2 oX12_flat (of182 _) 1 1 rfl rfl
theorem dX12_flat_33 : decode cX12_flat 33 = .ok (.ifCond .eq 21, 3) := dec_s2 oX12_flat (of153 _) 0 21 rfl (sg16p rfl) rfl
theorem dX12_flat_36 : decode cX12_flat 36 = .ok (.aload_n 0, 1) := dec_0 oX12_flat (of42 _) rfl
theorem dX12_flat_37 : decode cX12_flat 37 = .ok (.iload_n 3, 1) := dec_0 oX12_flat (of29 _) rfl
theorem dX12_flat_38 : decode cX12_flat 38 = .ok (.iload_n 1, 1) := dec_0 oX12_flat (of27 _) rfl
theorem dX12_flat_39 : decode cX12_flat 39 = .ok (.invokevirtual 336, 3) := dec_2 oX12_flat (of182 _) 1 80 rfl rfl
theorem dX12_flat_42 : decode cX12_flat 42 = .ok (.aload_n 0, 1) := dec_0 oX12_flat (of42 _) rfl
theorem dX12_flat_43 : decode cX12_flat 43 = .ok (.iload_n 3, 1) := dec_0 oX12_flat (of29 _) rfl
theorem dX12_flat_44 : decode cX12_flat 44 = .ok (.iload_n 1, 1) := dec_0 oX12_flat (of27 _) rfl
theorem dX12_flat_45 : decode cX12_flat 45 = .ok (.invokevirtual 339, 3) := dec_2 oX12_flat (of182 _) 1 83 rfl rfl
theorem dX12_flat_48 : decode cX12_flat 48 = .ok (.if_icmp .ne 6, 3) := dec_s2 oX12_flat (of160 _) 0 6 rfl (sg16p rfl) rfl
theorem dX12_flat_51 : decode cX12_flat 51 = .ok (.iinc 2 1, 3) := dec_ii oX12_flat (of132 _) 2 1 rfl (sg8p rfl) rfl
theorem dX12_flat_54 : decode cX12_flat 54 = .ok (.iinc 3 1, 3) := dec_ii oX12_flat (of132 _) 3 1 rfl (sg8p rfl) rfl
theorem dX12_flat_57 : decode cX12_flat 57 = .ok (.goto (-40), 3) := dec_s2 oX12_flat (of167 _) 255 216 rfl (sg16n (k := 40) rfl) rfl
theorem dX12_whole_31 : decode cX12_whole 31 = .ok (.iconst 0, 1) := dec_0 oX12_whole (of3 _) rfl
theorem dX12_whole_32 : decode cX12_whole 32 = .ok (.istore 5, 2) := dec_1 oX12_whole (of54 _) 5 rfl rfl
theorem dX12_whole_34 : decode cX12_whole 34 = .ok (.aload_n 0, 1) := dec_0 oX12_whole (of42 _) rfl
theorem dX12_whole_35 : decode cX12_whole 35 = .ok (.iload 4, 2) := dec_1 oX12_whole (of21 _) 4 rfl rfl
theorem dX12_whole_37 : decode cX12_whole 37 = .ok (.iload 5, 2) := dec_1 oX12_whole (of21 _) 5 rfl rfl
theorem dX12_whole_39 : decode cX12_whole 39 = .ok (.iadd, 1) := dec_0 oX12_whole (of96 _) rfl
theorem dX12_whole_40 : decode cX12_whole 40 = .ok (.invokevirtual 320, 3) := dec_2 oX12_whole (of182 _) 1 64 rfl rfl
theorem dX12_whole_43 : decode cX12_whole 43 = .ok (.ifCond .eq 9, 3) := dec_s2 oX12_whole (of153 _) 0 9 rfl (sg16p rfl) rfl
theorem dX12_whole_46 : decode cX12_whole 46 = .ok (.iinc 5 1, 3) := dec_ii oX12_whole (of132 _) 5 1 rfl (sg8p rfl) rfl
theorem dX12_whole_49 : decode cX12_whole 49 = .ok (.goto (-15), 3) := dec_s2 oX12_whole (of167 _) 255 241 rfl (sg16n (k := 15) rfl) rfl
theorem dX12_whole_52 : decode cX12_whole 52 = .ok (.iload 5, 2) := dec_1 oX12_whole (of21 _) 5 rfl rfl
theorem dX12_whole_54 : decode cX12_whole 54 = .ok (.ifCond .eq 18, 3) := dec_s2 oX12_whole (of153 _) 0 18 rfl (sg16p rfl) rfl
theorem dX12_whole_57 : decode cX12_whole 57 = .ok (.iload 5, 2) := dec_1 oX12_whole (of21 _) 5 rfl rfl
theorem dX12_whole_59 : decode cX12_whole 59 = .ok (.iload_n 3, 1) := dec_0 oX12_whole (of29 _) rfl
theorem dX12_whole_60 : decode cX12_whole 60 = .ok (.if_icmp .gt 6, 3) := dec_s2 oX12_whole (of163 _) 0 6 rfl (sg16p rfl) rfl
theorem dX12_whole_63 : decode cX12_whole 63 = .ok (.goto 9, 3) := dec_s2 oX12_whole (of167 _) 0 9 rfl (sg16p rfl) rfl
theorem dX12_whole_66 : decode cX12_whole 66 = .ok (.iload 4, 2) := dec_1 oX12_whole (of21 _) 4 rfl rfl
theorem dX12_whole_68 : decode cX12_whole 68 = .ok (.istore_n 2, 1) := dec_0 oX12_whole (of61 _) rfl
theorem dX12_whole_69 : decode cX12_whole 69 = .ok (.iload 5, 2) := dec_1 oX12_whole (of21 _) 5 rfl rfl
theorem dX12_whole_71 : decode cX12_whole 71 = .ok (.istore_n 3, 1) := dec_0 oX12_whole (of62 _) rfl
theorem dX12_whole_72 : decode cX12_whole 72 = .ok (.iinc 4 1, 3) := dec_ii oX12_whole (of132 _) 4 1 rfl (sg8p rfl) rfl
theorem dX12_whole_75 : decode cX12_whole 75 = .ok (.goto (-55), 3) := dec_s2 oX12_whole (of167 _) 255 201 rfl (sg16n (k := 55) rfl) rfl
theorem dX12_distance_11 : decode cX12_distance 11 = .ok (.aload_n 0, 1) := dec_0 oX12_distance (of42 _) rfl
theorem dX12_distance_12 : decode cX12_distance 12 = .ok (.invokevirtual 323, 3) := dec_2 oX12_distance (of182 _) 1 67 rfl rfl
theorem dX12_distance_15 : decode cX12_distance 15 = .ok (.aload_n 0, 1) := dec_0 oX12_distance (of42 _) rfl
theorem dX12_distance_16 : decode cX12_distance 16 = .ok (.iload_n 1, 1) := dec_0 oX12_distance (of27 _) rfl
theorem dX12_distance_17 : decode cX12_distance 17 = .ok (.iload_n 2, 1) := dec_0 oX12_distance (of28 _) rfl
theorem dX12_distance_18 : decode cX12_distance 18 = .ok (.invokevirtual 345, 3) := dec_2 oX12_distance (of182 _) 1 89 rfl rfl
theorem dX12_distance_21 : decode cX12_distance 21 = .ok (.ireturn, 1) := dec_0 oX12_distance (of172 _) rfl
theorem dX12_bound_9 : decode cX12_bound 9 = .ok (.iload_n 3, 1) := dec_0 oX12_bound (of29 _) rfl
theorem dX12_bound_10 : decode cX12_bound 10 = .ok (.iconst 0, 1) := dec_0 oX12_bound (of3 _) rfl
theorem dX12_bound_11 : decode cX12_bound 11 = .ok (.iconst 2, 1) := dec_0 oX12_bound (of5 _) rfl
theorem dX12_bound_12 : decode cX12_bound 12 = .ok (.invokestatic 244, 3) := dec_2 oX12_bound (of184 _) 0 244 rfl rfl
theorem dX12_bound_15 : decode cX12_bound 15 = .ok (.ifCond .ne 5, 3) := dec_s2 oX12_bound (of154 _) 0 5 rfl (sg16p rfl) rfl
theorem dX12_bound_20 : decode cX12_bound 20 = .ok (.aload_n 0, 1) := dec_0 oX12_bound (of42 _) rfl
theorem dX12_bound_21 : decode cX12_bound 21 = .ok (.invokevirtual 323, 3) := dec_2 oX12_bound (of182 _) 1 67 rfl rfl
theorem dX12_bound_24 : decode cX12_bound 24 = .ok (.aload_n 0, 1) := dec_0 oX12_bound (of42 _) rfl
theorem dX12_bound_25 : decode cX12_bound 25 = .ok (.iload_n 1, 1) := dec_0 oX12_bound (of27 _) rfl
theorem dX12_bound_26 : decode cX12_bound 26 = .ok (.iload_n 2, 1) := dec_0 oX12_bound (of28 _) rfl
theorem dX12_bound_27 : decode cX12_bound 27 = .ok (.invokevirtual 301, 3) := dec_2 oX12_bound (of182 _) 1 45 rfl rfl
theorem dX12_bound_30 : decode cX12_bound 30 = .ok (.iload_n 3, 1) := dec_0 oX12_bound (of29 _) rfl
theorem dX12_bound_31 : decode cX12_bound 31 = .ok (.ifCond .ne 10, 3) := dec_s2 oX12_bound (of154 _) 0 10 rfl (sg16p rfl) rfl
theorem dX12_bound_34 : decode cX12_bound 34 = .ok (.aload_n 0, 1) := dec_0 oX12_bound (of42 _) rfl
theorem dX12_bound_35 : decode cX12_bound 35 = .ok (.invokevirtual 314, 3) := dec_2 oX12_bound (of182 _) 1 58 rfl rfl
theorem dX12_bound_38 : decode cX12_bound 38 = .ok (.goto 19, 3) := dec_s2 oX12_bound (of167 _) 0 19 rfl (sg16p rfl) rfl
theorem dX12_bound_41 : decode cX12_bound 41 = .ok (.iload_n 3, 1) := dec_0 oX12_bound (of29 _) rfl
theorem dX12_bound_42 : decode cX12_bound 42 = .ok (.iconst 1, 1) := dec_0 oX12_bound (of4 _) rfl
theorem dX12_bound_43 : decode cX12_bound 43 = .ok (.if_icmp .ne 10, 3) := dec_s2 oX12_bound (of160 _) 0 10 rfl (sg16p rfl) rfl
theorem dX12_bound_46 : decode cX12_bound 46 = .ok (.aload_n 0, 1) := dec_0 oX12_bound (of42 _) rfl
theorem dX12_bound_47 : decode cX12_bound 47 = .ok (.invokevirtual 308, 3) := dec_2 oX12_bound (of182 _) 1 52 rfl rfl
theorem dX12_bound_50 : decode cX12_bound 50 = .ok (.goto 7, 3) := dec_s2 oX12_bound (of167 _) 0 7 rfl (sg16p rfl) rfl
theorem dX12_bound_53 : decode cX12_bound 53 = .ok (.aload_n 0, 1) := dec_0 oX12_bound (of42 _) rfl
theorem dX12_bound_54 : decode cX12_bound 54 = .ok (.invokevirtual 317, 3) := dec_2 oX12_bound (of182 _) 1 61 rfl rfl
theorem dX12_bound_57 : decode cX12_bound 57 = .ok (.ireturn, 1) := dec_0 oX12_bound (of172 _) rfl
theorem dX12_look_9 : decode cX12_look 9 = .ok (.iload_n 3, 1) := dec_0 oX12_look (of29 _) rfl
theorem dX12_look_10 : decode cX12_look 10 = .ok (.ifCond .lt 13, 3) := dec_s2 oX12_look (of155 _) 0 13 rfl (sg16p rfl) rfl
theorem dX12_look_13 : decode cX12_look 13 = .ok (.iload 4, 2) := dec_1 oX12_look (of21 _) 4 rfl rfl
theorem dX12_look_15 : decode cX12_look 15 = .ok (.iconst 0, 1) := dec_0 oX12_look (of3 _) rfl
theorem dX12_look_16 : decode cX12_look 16 = .ok (.iconst 2, 1) := dec_0 oX12_look (of5 _) rfl
theorem dX12_look_17 : decode cX12_look 17 = .ok (.invokestatic 244, 3) := dec_2 oX12_look (of184 _) 0 244 rfl rfl
theorem dX12_look_20 : decode cX12_look 20 = .ok (.ifCond .ne 5, 3) := dec_s2 oX12_look (of154 _) 0 5 rfl (sg16p rfl) rfl
theorem dX12_look_25 : decode cX12_look 25 = .ok (.aload_n 0, 1) := dec_0 oX12_look (of42 _) rfl
theorem dX12_look_26 : decode cX12_look 26 = .ok (.invokevirtual 323, 3) := dec_2 oX12_look (of182 _) 1 67 rfl rfl
theorem dX12_look_29 : decode cX12_look 29 = .ok (.aload_n 0, 1) := dec_0 oX12_look (of42 _) rfl
theorem dX12_look_30 : decode cX12_look 30 = .ok (.iload_n 1, 1) := dec_0 oX12_look (of27 _) rfl
theorem dX12_look_31 : decode cX12_look 31 = .ok (.iload_n 2, 1) := dec_0 oX12_look (of28 _) rfl
theorem dX12_look_32 : decode cX12_look 32 = .ok (.iload_n 3, 1) := dec_0 oX12_look (of29 _) rfl
theorem dX12_look_33 : decode cX12_look 33 = .ok (.invokevirtual 348, 3) := dec_2 oX12_look (of182 _) 1 92 rfl rfl
theorem dX12_look_36 : decode cX12_look 36 = .ok (.istore 5, 2) := dec_1 oX12_look (of54 _) 5 rfl rfl
theorem dX12_look_38 : decode cX12_look 38 = .ok (.iload 4, 2) := dec_1 oX12_look (of21 _) 4 rfl rfl
theorem dX12_look_40 : decode cX12_look 40 = .ok (.ifCond .ne 8, 3) := dec_s2 oX12_look (of154 _) 0 8 rfl (sg16p rfl) rfl
theorem dX12_look_43 : decode cX12_look 43 = .ok (.iload 5, 2) := dec_1 oX12_look (of21 _) 5 rfl rfl
theorem dX12_look_45 : decode cX12_look 45 = .ok (.goto 32, 3) := dec_s2 oX12_look (of167 _) 0 32 rfl (sg16p rfl) rfl
theorem dX12_look_48 : decode cX12_look 48 = .ok (.iload 4, 2) := dec_1 oX12_look (of21 _) 4 rfl rfl
theorem dX12_look_50 : decode cX12_look 50 = .ok (.iconst 1, 1) := dec_0 oX12_look (of4 _) rfl
theorem dX12_look_51 : decode cX12_look 51 = .ok (.if_icmp .ne 10, 3) := dec_s2 oX12_look (of160 _) 0 10 rfl (sg16p rfl) rfl
theorem dX12_look_54 : decode cX12_look 54 = .ok (.aload_n 0, 1) := dec_0 oX12_look (of42 _) rfl
theorem dX12_look_55 : decode cX12_look 55 = .ok (.getfield 292, 3) := dec_2 oX12_look (of180 _) 1 36 rfl rfl
theorem dX12_look_58 : decode cX12_look 58 = .ok (.goto 19, 3) := dec_s2 oX12_look (of167 _) 0 19 rfl (sg16p rfl) rfl
theorem dX12_look_61 : decode cX12_look 61 = .ok (.aload_n 0, 1) := dec_0 oX12_look (of42 _) rfl
theorem dX12_look_62 : decode cX12_look 62 = .ok (.getfield 295, 3) := dec_2 oX12_look (of180 _) 1 39 rfl rfl
theorem dX12_look_65 : decode cX12_look 65 = .ok (.ifCond .lt 10, 3) := dec_s2 oX12_look (of155 _) 0 10 rfl (sg16p rfl) rfl
theorem dX12_look_68 : decode cX12_look 68 = .ok (.aload_n 0, 1) := dec_0 oX12_look (of42 _) rfl
theorem dX12_look_69 : decode cX12_look 69 = .ok (.getfield 295, 3) := dec_2 oX12_look (of180 _) 1 39 rfl rfl
theorem dX12_look_72 : decode cX12_look 72 = .ok (.goto 5, 3) := dec_s2 oX12_look (of167 _) 0 5 rfl (sg16p rfl) rfl
theorem dX12_look_75 : decode cX12_look 75 = .ok (.bipush (-2), 2) := dec_s1 oX12_look (of16 _) 254 rfl (sg8n (k := 2) rfl) rfl
theorem dX12_look_77 : decode cX12_look 77 = .ok (.ireturn, 1) := dec_0 oX12_look (of172 _) rfl
theorem dX12_alike_8 : decode cX12_alike 8 = .ok (.aload_n 0, 1) := dec_0 oX12_alike (of42 _) rfl
theorem dX12_alike_9 : decode cX12_alike 9 = .ok (.iload_n 2, 1) := dec_0 oX12_alike (of28 _) rfl
theorem dX12_alike_10 : decode cX12_alike 10 = .ok (.invokevirtual 251, 3) := dec_2 oX12_alike (of182 _) 0 251 rfl rfl
theorem dX12_alike_13 : decode cX12_alike 13 = .ok (.ifCond .ne 5, 3) := dec_s2 oX12_alike (of154 _) 0 5 rfl (sg16p rfl) rfl
theorem dX12_alike_18 : decode cX12_alike 18 = .ok (.aload_n 0, 1) := dec_0 oX12_alike (of42 _) rfl
theorem dX12_alike_19 : decode cX12_alike 19 = .ok (.iload_n 1, 1) := dec_0 oX12_alike (of27 _) rfl
theorem dX12_alike_20 : decode cX12_alike 20 = .ok (.invokevirtual 254, 3) := dec_2 oX12_alike (of182 _) 0 254 rfl rfl
theorem dX12_alike_23 : decode cX12_alike 23 = .ok (.aload_n 0, 1) := dec_0 oX12_alike (of42 _) rfl
theorem dX12_alike_24 : decode cX12_alike 24 = .ok (.iload_n 2, 1) := dec_0 oX12_alike (of28 _) rfl
theorem dX12_alike_25 : decode cX12_alike 25 = .ok (.invokevirtual 254, 3) := dec_2 oX12_alike (of182 _) 0 254 rfl rfl
theorem dX12_alike_28 : decode cX12_alike 28 = .ok (.if_icmp .eq 6, 3) := dec_s2 oX12_alike (of159 _) 0 6 rfl (sg16p rfl) rfl
theorem dX12_alike_31 : decode cX12_alike 31 = .ok (.bipush (-2), 2) := dec_s1 oX12_alike (of16 _) 254 rfl (sg8n (k := 2) rfl) rfl
theorem dX12_alike_33 : decode cX12_alike 33 = .ok (.ireturn, 1) := dec_0 oX12_alike (of172 _) rfl
theorem dX12_alike_34 : decode cX12_alike 34 = .ok (.aload_n 0, 1) := dec_0 oX12_alike (of42 _) rfl
theorem dX12_alike_35 : decode cX12_alike 35 = .ok (.invokevirtual 323, 3) := dec_2 oX12_alike (of182 _) 1 67 rfl rfl
theorem dX12_alike_38 : decode cX12_alike 38 = .ok (.aload_n 0, 1) := dec_0 oX12_alike (of42 _) rfl
theorem dX12_alike_39 : decode cX12_alike 39 = .ok (.aload_n 0, 1) := dec_0 oX12_alike (of42 _) rfl
theorem dX12_alike_40 : decode cX12_alike 40 = .ok (.iload_n 1, 1) := dec_0 oX12_alike (of27 _) rfl
theorem dX12_alike_41 : decode cX12_alike 41 = .ok (.invokevirtual 254, 3) := dec_2 oX12_alike (of182 _) 0 254 rfl rfl
theorem dX12_alike_44 : decode cX12_alike 44 = .ok (.putfield 267, 3) := dec_2 oX12_alike (of181 _) 1 11 rfl rfl
theorem dX12_alike_47 : decode cX12_alike 47 = .ok (.aload_n 0, 1) := dec_0 oX12_alike (of42 _) rfl
theorem dX12_alike_48 : decode cX12_alike 48 = .ok (.iload_n 2, 1) := dec_0 oX12_alike (of28 _) rfl
theorem dX12_alike_49 : decode cX12_alike 49 = .ok (.invokevirtual 276, 3) := dec_2 oX12_alike (of182 _) 1 20 rfl rfl
theorem dX12_alike_52 : decode cX12_alike 52 = .ok (.aload_n 0, 1) := dec_0 oX12_alike (of42 _) rfl
theorem dX12_alike_53 : decode cX12_alike 53 = .ok (.aload_n 0, 1) := dec_0 oX12_alike (of42 _) rfl
theorem dX12_alike_54 : decode cX12_alike 54 = .ok (.getfield 267, 3) := dec_2 oX12_alike (of180 _) 1 11 rfl rfl
theorem dX12_alike_57 : decode cX12_alike 57 = .ok (.invokevirtual 273, 3) := dec_2 oX12_alike (of182 _) 1 17 rfl rfl
theorem dX12_alike_60 : decode cX12_alike 60 = .ok (.aload_n 0, 1) := dec_0 oX12_alike (of42 _) rfl
theorem dX12_alike_61 : decode cX12_alike 61 = .ok (.iload_n 1, 1) := dec_0 oX12_alike (of27 _) rfl
theorem dX12_alike_62 : decode cX12_alike 62 = .ok (.invokevirtual 276, 3) := dec_2 oX12_alike (of182 _) 1 20 rfl rfl
theorem dX12_alike_65 : decode cX12_alike 65 = .ok (.aload_n 0, 1) := dec_0 oX12_alike (of42 _) rfl
theorem dX12_alike_66 : decode cX12_alike 66 = .ok (.ldc_w 282, 3) := dec_2 oX12_alike (of19 _) 1 26 rfl rfl
theorem dX12_alike_69 : decode cX12_alike 69 = .ok (.invokevirtual 304, 3) := dec_2 oX12_alike (of182 _) 1 48 rfl rfl
theorem dX12_alike_72 : decode cX12_alike 72 = .ok (.ireturn, 1) := dec_0 oX12_alike (of172 _) rfl
theorem dX12_fillsWay_0 : decode cX12_fillsWay 0 = .ok (.aload_n 0, 1) := dec_0 oX12_fillsWay (of42 _) rfl
theorem dX12_fillsWay_1 : decode cX12_fillsWay 1 = .ok (.getfield 267, 3) := dec_2 oX12_fillsWay (of180 _) 1 11 rfl rfl
theorem dX12_fillsWay_4 : decode cX12_fillsWay 4 = .ok (.iconst 1, 1) := dec_0 oX12_fillsWay (of4 _) rfl
theorem dX12_fillsWay_5 : decode cX12_fillsWay 5 = .ok (.isub, 1) := dec_0 oX12_fillsWay (of100 _) rfl
theorem dX12_fillsWay_6 : decode cX12_fillsWay 6 = .ok (.istore_n 1, 1) := dec_0 oX12_fillsWay (of60 _) rfl
theorem dX12_fillsWay_7 : decode cX12_fillsWay 7 = .ok (.aload_n 0, 1) := dec_0 oX12_fillsWay (of42 _) rfl
theorem dX12_fillsWay_8 : decode cX12_fillsWay 8 = .ok (.getfield 267, 3) := dec_2 oX12_fillsWay (of180 _) 1 11 rfl rfl
theorem dX12_fillsWay_11 : decode cX12_fillsWay 11 = .ok (.iconst 1, 1) := dec_0 oX12_fillsWay (of4 _) rfl
theorem dX12_fillsWay_12 : decode cX12_fillsWay 12 = .ok (.isub, 1) := dec_0 oX12_fillsWay (of100 _) rfl
theorem dX12_fillsWay_13 : decode cX12_fillsWay 13 = .ok (.istore_n 2, 1) := dec_0 oX12_fillsWay (of61 _) rfl
theorem dX12_fillsWay_14 : decode cX12_fillsWay 14 = .ok (.aload_n 0, 1) := dec_0 oX12_fillsWay (of42 _) rfl
theorem dX12_fillsWay_15 : decode cX12_fillsWay 15 = .ok (.iconst 0, 1) := dec_0 oX12_fillsWay (of3 _) rfl
theorem dX12_fillsWay_16 : decode cX12_fillsWay 16 = .ok (.putfield 351, 3) := dec_2 oX12_fillsWay (of181 _) 1 95 rfl rfl
theorem dX12_fillsWay_19 : decode cX12_fillsWay 19 = .ok (.iload_n 1, 1) := dec_0 oX12_fillsWay (of27 _) rfl
theorem dX12_fillsWay_20 : decode cX12_fillsWay 20 = .ok (.ifCond .lt 125, 3) := dec_s2 oX12_fillsWay (of155 _) 0 125 rfl (sg16p rfl) rfl
theorem dX12_fillsWay_23 : decode cX12_fillsWay 23 = .ok (.iload_n 2, 1) := dec_0 oX12_fillsWay (of28 _) rfl
theorem dX12_fillsWay_24 : decode cX12_fillsWay 24 = .ok (.ifCond .lt 121, 3) := dec_s2 oX12_fillsWay (of155 _) 0 121 rfl (sg16p rfl) rfl
theorem dX12_fillsWay_27 : decode cX12_fillsWay 27 = .ok (.aload_n 0, 1) := dec_0 oX12_fillsWay (of42 _) rfl
theorem dX12_fillsWay_28 : decode cX12_fillsWay 28 = .ok (.getfield 88, 3) := dec_2 oX12_fillsWay (of180 _) 0 88 rfl rfl
theorem dX12_fillsWay_31 : decode cX12_fillsWay 31 = .ok (.aload_n 0, 1) := dec_0 oX12_fillsWay (of42 _) rfl
theorem dX12_fillsWay_32 : decode cX12_fillsWay 32 = .ok (.getfield 351, 3) := dec_2 oX12_fillsWay (of180 _) 1 95 rfl rfl
theorem dX12_fillsWay_35 : decode cX12_fillsWay 35 = .ok (.bipush 100, 2) := dec_s1 oX12_fillsWay (of16 _) 100 rfl (sg8p rfl) rfl
theorem dX12_fillsWay_37 : decode cX12_fillsWay 37 = .ok (.iload_n 1, 1) := dec_0 oX12_fillsWay (of27 _) rfl
theorem dX12_fillsWay_38 : decode cX12_fillsWay 38 = .ok (.imul, 1) := dec_0 oX12_fillsWay (of104 _) rfl
theorem dX12_fillsWay_39 : decode cX12_fillsWay 39 = .ok (.iload_n 2, 1) := dec_0 oX12_fillsWay (of28 _) rfl
theorem dX12_fillsWay_40 : decode cX12_fillsWay 40 = .ok (.iadd, 1) := dec_0 oX12_fillsWay (of96 _) rfl
theorem dX12_fillsWay_41 : decode cX12_fillsWay 41 = .ok (.iastore, 1) := dec_0 oX12_fillsWay (of79 _) rfl
theorem dX12_fillsWay_42 : decode cX12_fillsWay 42 = .ok (.aload_n 0, 1) := dec_0 oX12_fillsWay (of42 _) rfl
theorem dX12_fillsWay_43 : decode cX12_fillsWay 43 = .ok (.dup, 1) := dec_0 oX12_fillsWay (of89 _) rfl
theorem dX12_fillsWay_44 : decode cX12_fillsWay 44 = .ok (.getfield 351, 3) := dec_2 oX12_fillsWay (of180 _) 1 95 rfl rfl
theorem dX12_fillsWay_47 : decode cX12_fillsWay 47 = .ok (.iconst 1, 1) := dec_0 oX12_fillsWay (of4 _) rfl
theorem dX12_fillsWay_48 : decode cX12_fillsWay 48 = .ok (.iadd, 1) := dec_0 oX12_fillsWay (of96 _) rfl
theorem dX12_fillsWay_49 : decode cX12_fillsWay 49 = .ok (.putfield 351, 3) := dec_2 oX12_fillsWay (of181 _) 1 95 rfl rfl
theorem dX12_fillsWay_52 : decode cX12_fillsWay 52 = .ok (.aload_n 0, 1) := dec_0 oX12_fillsWay (of42 _) rfl
theorem dX12_fillsWay_53 : decode cX12_fillsWay 53 = .ok (.iload_n 1, 1) := dec_0 oX12_fillsWay (of27 _) rfl
theorem dX12_fillsWay_54 : decode cX12_fillsWay 54 = .ok (.iconst 1, 1) := dec_0 oX12_fillsWay (of4 _) rfl
theorem dX12_fillsWay_55 : decode cX12_fillsWay 55 = .ok (.isub, 1) := dec_0 oX12_fillsWay (of100 _) rfl
theorem dX12_fillsWay_56 : decode cX12_fillsWay 56 = .ok (.iload_n 2, 1) := dec_0 oX12_fillsWay (of28 _) rfl
theorem dX12_fillsWay_57 : decode cX12_fillsWay 57 = .ok (.iconst 1, 1) := dec_0 oX12_fillsWay (of4 _) rfl
theorem dX12_fillsWay_58 : decode cX12_fillsWay 58 = .ok (.isub, 1) := dec_0 oX12_fillsWay (of100 _) rfl
theorem dX12_fillsWay_59 : decode cX12_fillsWay 59 = .ok (.invokevirtual 283, 3) := dec_2 oX12_fillsWay (of182 _) 1 27 rfl rfl
theorem dX12_fillsWay_62 : decode cX12_fillsWay 62 = .ok (.istore_n 3, 1) := dec_0 oX12_fillsWay (of62 _) rfl
theorem dX12_fillsWay_63 : decode cX12_fillsWay 63 = .ok (.aload_n 0, 1) := dec_0 oX12_fillsWay (of42 _) rfl
theorem dX12_fillsWay_64 : decode cX12_fillsWay 64 = .ok (.iload_n 1, 1) := dec_0 oX12_fillsWay (of27 _) rfl
theorem dX12_fillsWay_65 : decode cX12_fillsWay 65 = .ok (.iconst 1, 1) := dec_0 oX12_fillsWay (of4 _) rfl
theorem dX12_fillsWay_66 : decode cX12_fillsWay 66 = .ok (.isub, 1) := dec_0 oX12_fillsWay (of100 _) rfl
theorem dX12_fillsWay_67 : decode cX12_fillsWay 67 = .ok (.iload_n 2, 1) := dec_0 oX12_fillsWay (of28 _) rfl
theorem dX12_fillsWay_68 : decode cX12_fillsWay 68 = .ok (.invokevirtual 283, 3) := dec_2 oX12_fillsWay (of182 _) 1 27 rfl rfl
theorem dX12_fillsWay_71 : decode cX12_fillsWay 71 = .ok (.istore 4, 2) := dec_1 oX12_fillsWay (of54 _) 4 rfl rfl
theorem dX12_fillsWay_73 : decode cX12_fillsWay 73 = .ok (.aload_n 0, 1) := dec_0 oX12_fillsWay (of42 _) rfl
theorem dX12_fillsWay_74 : decode cX12_fillsWay 74 = .ok (.iload_n 1, 1) := dec_0 oX12_fillsWay (of27 _) rfl
theorem dX12_fillsWay_75 : decode cX12_fillsWay 75 = .ok (.iload_n 2, 1) := dec_0 oX12_fillsWay (of28 _) rfl
theorem dX12_fillsWay_76 : decode cX12_fillsWay 76 = .ok (.iconst 1, 1) := dec_0 oX12_fillsWay (of4 _) rfl
theorem dX12_fillsWay_77 : decode cX12_fillsWay 77 = .ok (.isub, 1) := dec_0 oX12_fillsWay (of100 _) rfl
theorem dX12_fillsWay_78 : decode cX12_fillsWay 78 = .ok (.invokevirtual 283, 3) := dec_2 oX12_fillsWay (of182 _) 1 27 rfl rfl
theorem dX12_fillsWay_81 : decode cX12_fillsWay 81 = .ok (.istore 5, 2) := dec_1 oX12_fillsWay (of54 _) 5 rfl rfl
theorem dX12_fillsWay_83 : decode cX12_fillsWay 83 = .ok (.iload_n 3, 1) := dec_0 oX12_fillsWay (of29 _) rfl
theorem dX12_fillsWay_84 : decode cX12_fillsWay 84 = .ok (.iload 4, 2) := dec_1 oX12_fillsWay (of21 _) 4 rfl rfl
theorem dX12_fillsWay_86 : decode cX12_fillsWay 86 = .ok (.if_icmp .gt 13, 3) := dec_s2 oX12_fillsWay (of163 _) 0 13 rfl (sg16p rfl) rfl
theorem dX12_fillsWay_89 : decode cX12_fillsWay 89 = .ok (.iload_n 3, 1) := dec_0 oX12_fillsWay (of29 _) rfl
theorem dX12_fillsWay_90 : decode cX12_fillsWay 90 = .ok (.iload 5, 2) := dec_1 oX12_fillsWay (of21 _) 5 rfl rfl
theorem dX12_fillsWay_92 : decode cX12_fillsWay 92 = .ok (.if_icmp .gt 7, 3) := dec_s2 oX12_fillsWay (of163 _) 0 7 rfl (sg16p rfl) rfl
theorem dX12_fillsWay_95 : decode cX12_fillsWay 95 = .ok (.iconst 1, 1) := dec_0 oX12_fillsWay (of4 _) rfl
theorem dX12_fillsWay_96 : decode cX12_fillsWay 96 = .ok (.goto 4, 3) := dec_s2 oX12_fillsWay (of167 _) 0 4 rfl (sg16p rfl) rfl
theorem dX12_fillsWay_99 : decode cX12_fillsWay 99 = .ok (.iconst 0, 1) := dec_0 oX12_fillsWay (of3 _) rfl
theorem dX12_fillsWay_100 : decode cX12_fillsWay 100 = .ok (.istore 6, 2) := dec_1 oX12_fillsWay (of54 _) 6 rfl rfl
theorem dX12_fillsWay_102 : decode cX12_fillsWay 102 = .ok (.iload 4, 2) := dec_1 oX12_fillsWay (of21 _) 4 rfl rfl
theorem dX12_fillsWay_104 : decode cX12_fillsWay 104 = .ok (.iload 5, 2) := dec_1 oX12_fillsWay (of21 _) 5 rfl rfl
theorem dX12_fillsWay_106 : decode cX12_fillsWay 106 = .ok (.if_icmp .gt 7, 3) := dec_s2 oX12_fillsWay (of163 _) 0 7 rfl (sg16p rfl) rfl
theorem dX12_fillsWay_109 : decode cX12_fillsWay 109 = .ok (.iconst 1, 1) := dec_0 oX12_fillsWay (of4 _) rfl
theorem dX12_fillsWay_110 : decode cX12_fillsWay 110 = .ok (.goto 4, 3) := dec_s2 oX12_fillsWay (of167 _) 0 4 rfl (sg16p rfl) rfl
theorem dX12_fillsWay_113 : decode cX12_fillsWay 113 = .ok (.iconst 0, 1) := dec_0 oX12_fillsWay (of3 _) rfl
theorem dX12_fillsWay_114 : decode cX12_fillsWay 114 = .ok (.istore 7, 2) := dec_1 oX12_fillsWay (of54 _) 7 rfl rfl
theorem dX12_fillsWay_116 : decode cX12_fillsWay 116 = .ok (.iload 6, 2) := dec_1 oX12_fillsWay (of21 _) 6 rfl rfl
theorem dX12_fillsWay_118 : decode cX12_fillsWay 118 = .ok (.ifCond .ne 8, 3) := dec_s2 oX12_fillsWay (of154 _) 0 8 rfl (sg16p rfl) rfl
theorem dX12_fillsWay_121 : decode cX12_fillsWay 121 = .ok (.iload 7, 2) := dec_1 oX12_fillsWay (of21 _) 7 rfl rfl
theorem dX12_fillsWay_123 : decode cX12_fillsWay 123 = .ok (.ifCond .eq 6, 3) := dec_s2 oX12_fillsWay (of153 _) 0 6 rfl (sg16p rfl) rfl
theorem dX12_fillsWay_126 : decode cX12_fillsWay 126 = .ok (.iinc 1 (-1), 3) := dec_ii oX12_fillsWay (of132 _) 1 255 rfl (sg8n (k := 1) rfl) rfl
theorem dX12_fillsWay_129 : decode cX12_fillsWay 129 = .ok (.iload 6, 2) := dec_1 oX12_fillsWay (of21 _) 6 rfl rfl
theorem dX12_fillsWay_131 : decode cX12_fillsWay 131 = .ok (.ifCond .ne 8, 3) := dec_s2 oX12_fillsWay (of154 _) 0 8 rfl (sg16p rfl) rfl
theorem dX12_fillsWay_134 : decode cX12_fillsWay 134 = .ok (.iload 7, 2) := dec_1 oX12_fillsWay (of21 _) 7 rfl rfl
theorem dX12_fillsWay_136 : decode cX12_fillsWay 136 = .ok (.ifCond .ne 6, 3) := dec_s2 oX12_fillsWay (of154 _) 0 6 rfl (sg16p rfl) rfl
theorem dX12_fillsWay_139 : decode cX12_fillsWay 139 = .ok (.iinc 2 (-1), 3) := dec_ii oX12_fillsWay (of132 _) 2 255 rfl (sg8n (k := 1) rfl) rfl
theorem dX12_fillsWay_142 : decode cX12_fillsWay 142 = .ok (.goto (-123), 3) := dec_s2 oX12_fillsWay (of167 _) 255 133 rfl (sg16n (k := 123) rfl) rfl
theorem dX12_fillsWay_145 : decode cX12_fillsWay 145 = .ok (.return_, 1) := dec_0 oX12_fillsWay (of177 _) rfl
theorem dX12_way_9 : decode cX12_way 9 = .ok (.iload_n 3, 1) := dec_0 oX12_way (of29 _) rfl
theorem dX12_way_10 : decode cX12_way 10 = .ok (.iconst (-1), 1) := dec_0 oX12_way (of2 _) rfl
theorem dX12_way_11 : decode cX12_way 11 = .ok (.if_icmp .ge 5, 3) := dec_s2 oX12_way (of162 _) 0 5 rfl (sg16p rfl) rfl
theorem dX12_way_16 : decode cX12_way 16 = .ok (.aload_n 0, 1) := dec_0 oX12_way (of42 _) rfl
theorem dX12_way_17 : decode cX12_way 17 = .ok (.invokevirtual 323, 3) := dec_2 oX12_way (of182 _) 1 67 rfl rfl
theorem dX12_way_20 : decode cX12_way 20 = .ok (.aload_n 0, 1) := dec_0 oX12_way (of42 _) rfl
theorem dX12_way_21 : decode cX12_way 21 = .ok (.iload_n 1, 1) := dec_0 oX12_way (of27 _) rfl
theorem dX12_way_22 : decode cX12_way 22 = .ok (.iload_n 2, 1) := dec_0 oX12_way (of28 _) rfl
theorem dX12_way_23 : decode cX12_way 23 = .ok (.invokevirtual 345, 3) := dec_2 oX12_way (of182 _) 1 89 rfl rfl
theorem dX12_way_26 : decode cX12_way 26 = .ok (.pop, 1) := dec_0 oX12_way (of87 _) rfl
theorem dX12_way_27 : decode cX12_way 27 = .ok (.aload_n 0, 1) := dec_0 oX12_way (of42 _) rfl
theorem dX12_way_28 : decode cX12_way 28 = .ok (.invokevirtual 354, 3) := dec_2 oX12_way (of182 _) 1 98 rfl rfl
theorem dX12_way_31 : decode cX12_way 31 = .ok (.iload_n 3, 1) := dec_0 oX12_way (of29 _) rfl
theorem dX12_way_32 : decode cX12_way 32 = .ok (.iconst (-1), 1) := dec_0 oX12_way (of2 _) rfl
theorem dX12_way_33 : decode cX12_way 33 = .ok (.if_icmp .ne 10, 3) := dec_s2 oX12_way (of160 _) 0 10 rfl (sg16p rfl) rfl
theorem dX12_way_36 : decode cX12_way 36 = .ok (.aload_n 0, 1) := dec_0 oX12_way (of42 _) rfl
theorem dX12_way_37 : decode cX12_way 37 = .ok (.getfield 351, 3) := dec_2 oX12_way (of180 _) 1 95 rfl rfl
theorem dX12_way_40 : decode cX12_way 40 = .ok (.goto 28, 3) := dec_s2 oX12_way (of167 _) 0 28 rfl (sg16p rfl) rfl
theorem dX12_way_43 : decode cX12_way 43 = .ok (.iload_n 3, 1) := dec_0 oX12_way (of29 _) rfl
theorem dX12_way_44 : decode cX12_way 44 = .ok (.aload_n 0, 1) := dec_0 oX12_way (of42 _) rfl
theorem dX12_way_45 : decode cX12_way 45 = .ok (.getfield 351, 3) := dec_2 oX12_way (of180 _) 1 95 rfl rfl
theorem dX12_way_48 : decode cX12_way 48 = .ok (.if_icmp .ge 19, 3) := dec_s2 oX12_way (of162 _) 0 19 rfl (sg16p rfl) rfl
theorem dX12_way_51 : decode cX12_way 51 = .ok (.aload_n 0, 1) := dec_0 oX12_way (of42 _) rfl
theorem dX12_way_52 : decode cX12_way 52 = .ok (.getfield 88, 3) := dec_2 oX12_way (of180 _) 0 88 rfl rfl
theorem dX12_way_55 : decode cX12_way 55 = .ok (.aload_n 0, 1) := dec_0 oX12_way (of42 _) rfl
theorem dX12_way_56 : decode cX12_way 56 = .ok (.getfield 351, 3) := dec_2 oX12_way (of180 _) 1 95 rfl rfl
theorem dX12_way_59 : decode cX12_way 59 = .ok (.iconst 1, 1) := dec_0 oX12_way (of4 _) rfl
theorem dX12_way_60 : decode cX12_way 60 = .ok (.isub, 1) := dec_0 oX12_way (of100 _) rfl
theorem dX12_way_61 : decode cX12_way 61 = .ok (.iload_n 3, 1) := dec_0 oX12_way (of29 _) rfl
theorem dX12_way_62 : decode cX12_way 62 = .ok (.isub, 1) := dec_0 oX12_way (of100 _) rfl
theorem dX12_way_63 : decode cX12_way 63 = .ok (.iaload, 1) := dec_0 oX12_way (of46 _) rfl
theorem dX12_way_64 : decode cX12_way 64 = .ok (.goto 4, 3) := dec_s2 oX12_way (of167 _) 0 4 rfl (sg16p rfl) rfl
theorem dX12_way_67 : decode cX12_way 67 = .ok (.iconst (-1), 1) := dec_0 oX12_way (of2 _) rfl
theorem dX12_way_68 : decode cX12_way 68 = .ok (.ireturn, 1) := dec_0 oX12_way (of172 _) rfl
theorem dX12_lean_9 : decode cX12_lean 9 = .ok (.iload_n 3, 1) := dec_0 oX12_lean (of29 _) rfl
theorem dX12_lean_10 : decode cX12_lean 10 = .ok (.iconst 0, 1) := dec_0 oX12_lean (of3 _) rfl
theorem dX12_lean_11 : decode cX12_lean 11 = .ok (.iconst 1, 1) := dec_0 oX12_lean (of4 _) rfl
theorem dX12_lean_12 : decode cX12_lean 12 = .ok (.invokestatic 244, 3) := dec_2 oX12_lean (of184 _) 0 244 rfl rfl
theorem dX12_lean_15 : decode cX12_lean 15 = .ok (.ifCond .ne 5, 3) := dec_s2 oX12_lean (of154 _) 0 5 rfl (sg16p rfl) rfl
theorem dX12_lean_20 : decode cX12_lean 20 = .ok (.aload_n 0, 1) := dec_0 oX12_lean (of42 _) rfl
theorem dX12_lean_21 : decode cX12_lean 21 = .ok (.invokevirtual 323, 3) := dec_2 oX12_lean (of182 _) 1 67 rfl rfl
theorem dX12_lean_24 : decode cX12_lean 24 = .ok (.aload_n 0, 1) := dec_0 oX12_lean (of42 _) rfl
theorem dX12_lean_25 : decode cX12_lean 25 = .ok (.iload_n 1, 1) := dec_0 oX12_lean (of27 _) rfl
theorem dX12_lean_26 : decode cX12_lean 26 = .ok (.iload_n 2, 1) := dec_0 oX12_lean (of28 _) rfl
theorem dX12_lean_27 : decode cX12_lean 27 = .ok (.invokevirtual 345, 3) := dec_2 oX12_lean (of182 _) 1 89 rfl rfl
theorem dX12_lean_30 : decode cX12_lean 30 = .ok (.pop, 1) := dec_0 oX12_lean (of87 _) rfl
theorem dX12_lean_31 : decode cX12_lean 31 = .ok (.aload_n 0, 1) := dec_0 oX12_lean (of42 _) rfl
theorem dX12_lean_32 : decode cX12_lean 32 = .ok (.invokevirtual 354, 3) := dec_2 oX12_lean (of182 _) 1 98 rfl rfl
theorem dX12_lean_35 : decode cX12_lean 35 = .ok (.iconst 0, 1) := dec_0 oX12_lean (of3 _) rfl
theorem dX12_lean_36 : decode cX12_lean 36 = .ok (.istore 4, 2) := dec_1 oX12_lean (of54 _) 4 rfl rfl
theorem dX12_lean_38 : decode cX12_lean 38 = .ok (.iconst 0, 1) := dec_0 oX12_lean (of3 _) rfl
theorem dX12_lean_39 : decode cX12_lean 39 = .ok (.istore 5, 2) := dec_1 oX12_lean (of54 _) 5 rfl rfl
theorem dX12_lean_41 : decode cX12_lean 41 = .ok (.iconst 0, 1) := dec_0 oX12_lean (of3 _) rfl
theorem dX12_lean_42 : decode cX12_lean 42 = .ok (.istore 6, 2) := dec_1 oX12_lean (of54 _) 6 rfl rfl
theorem dX12_lean_44 : decode cX12_lean 44 = .ok (.iload 6, 2) := dec_1 oX12_lean (of21 _) 6 rfl rfl
theorem dX12_lean_46 : decode cX12_lean 46 = .ok (.aload_n 0, 1) := dec_0 oX12_lean (of42 _) rfl
theorem dX12_lean_47 : decode cX12_lean 47 = .ok (.getfield 351, 3) := dec_2 oX12_lean (of180 _) 1 95 rfl rfl
theorem dX12_lean_50 : decode cX12_lean 50 = .ok (.if_icmp .ge 83, 3) := dec_s2 oX12_lean (of162 _) 0 83 rfl (sg16p rfl) rfl
theorem dX12_lean_53 : decode cX12_lean 53 = .ok (.aload_n 0, 1) := dec_0 oX12_lean (of42 _) rfl
theorem dX12_lean_54 : decode cX12_lean 54 = .ok (.getfield 88, 3) := dec_2 oX12_lean (of180 _) 0 88 rfl rfl
theorem dX12_lean_57 : decode cX12_lean 57 = .ok (.iload 6, 2) := dec_1 oX12_lean (of21 _) 6 rfl rfl
theorem dX12_lean_59 : decode cX12_lean 59 = .ok (.iaload, 1) := dec_0 oX12_lean (of46 _) rfl
theorem dX12_lean_60 : decode cX12_lean 60 = .ok (.bipush 100, 2) := dec_s1 oX12_lean (of16 _) 100 rfl (sg8p rfl) rfl
theorem dX12_lean_62 : decode cX12_lean 62 = .ok (.idiv, 1) := dec_0 oX12_lean (of108 _) rfl
theorem dX12_lean_63 : decode cX12_lean 63 = .ok (.aload_n 0, 1) := dec_0 oX12_lean (of42 _) rfl
theorem dX12_lean_64 : decode cX12_lean 64 = .ok (.getfield 88, 3) := dec_2 oX12_lean (of180 _) 0 88 rfl rfl
theorem dX12_lean_67 : decode cX12_lean 67 = .ok (.iload 6, 2) := dec_1 oX12_lean (of21 _) 6 rfl rfl
theorem dX12_lean_69 : decode cX12_lean 69 = .ok (.iaload, 1) := dec_0 oX12_lean (of46 _) rfl
theorem dX12_lean_70 : decode cX12_lean 70 = .ok (.bipush 100, 2) := dec_s1 oX12_lean (of16 _) 100 rfl (sg8p rfl) rfl
theorem dX12_lean_72 : decode cX12_lean 72 = .ok (.irem, 1) := dec_0 oX12_lean (of112 _) rfl
theorem dX12_lean_73 : decode cX12_lean 73 = .ok (.isub, 1) := dec_0 oX12_lean (of100 _) rfl
theorem dX12_lean_74 : decode cX12_lean 74 = .ok (.istore 7, 2) := dec_1 oX12_lean (of54 _) 7 rfl rfl
theorem dX12_lean_76 : decode cX12_lean 76 = .ok (.iload 7, 2) := dec_1 oX12_lean (of21 _) 7 rfl rfl
theorem dX12_lean_78 : decode cX12_lean 78 = .ok (.ifCond .ge 8, 3) := dec_s2 oX12_lean (of156 _) 0 8 rfl (sg16p rfl) rfl
theorem dX12_lean_81 : decode cX12_lean 81 = .ok (.iload 7, 2) := dec_1 oX12_lean (of21 _) 7 rfl rfl
theorem dX12_lean_83 : decode cX12_lean 83 = .ok (.ineg, 1) := dec_0 oX12_lean (of116 _) rfl
theorem dX12_lean_84 : decode cX12_lean 84 = .ok (.istore 7, 2) := dec_1 oX12_lean (of54 _) 7 rfl rfl
theorem dX12_lean_86 : decode cX12_lean 86 = .ok (.iload 7, 2) := dec_1 oX12_lean (of21 _) 7 rfl rfl
theorem dX12_lean_88 : decode cX12_lean 88 = .ok (.iload 4, 2) := dec_1 oX12_lean (of21 _) 4 rfl rfl
theorem dX12_lean_90 : decode cX12_lean 90 = .ok (.if_icmp .le 7, 3) := dec_s2 oX12_lean (of164 _) 0 7 rfl (sg16p rfl) rfl
theorem dX12_lean_93 : decode cX12_lean 93 = .ok (.iload 7, 2) := dec_1 oX12_lean (of21 _) 7 rfl rfl
theorem dX12_lean_95 : decode cX12_lean 95 = .ok (.istore 4, 2) := dec_1 oX12_lean (of54 _) 4 rfl rfl
theorem dX12_lean_97 : decode cX12_lean 97 = .ok (.iload 6, 2) := dec_1 oX12_lean (of21 _) 6 rfl rfl
theorem dX12_lean_99 : decode cX12_lean 99 = .ok (.ifCond .le 28, 3) := dec_s2 oX12_lean (of158 _) 0 28 rfl (sg16p rfl) rfl
theorem dX12_lean_102 : decode cX12_lean 102 = .ok (.aload_n 0, 1) := dec_0 oX12_lean (of42 _) rfl
theorem dX12_lean_103 : decode cX12_lean 103 = .ok (.getfield 88, 3) := dec_2 oX12_lean (of180 _) 0 88 rfl rfl
theorem dX12_lean_106 : decode cX12_lean 106 = .ok (.iload 6, 2) := dec_1 oX12_lean (of21 _) 6 rfl rfl
theorem dX12_lean_108 : decode cX12_lean 108 = .ok (.iconst 1, 1) := dec_0 oX12_lean (of4 _) rfl
theorem dX12_lean_109 : decode cX12_lean 109 = .ok (.isub, 1) := dec_0 oX12_lean (of100 _) rfl
theorem dX12_lean_110 : decode cX12_lean 110 = .ok (.iaload, 1) := dec_0 oX12_lean (of46 _) rfl
theorem dX12_lean_111 : decode cX12_lean 111 = .ok (.aload_n 0, 1) := dec_0 oX12_lean (of42 _) rfl
theorem dX12_lean_112 : decode cX12_lean 112 = .ok (.getfield 88, 3) := dec_2 oX12_lean (of180 _) 0 88 rfl rfl
theorem dX12_lean_115 : decode cX12_lean 115 = .ok (.iload 6, 2) := dec_1 oX12_lean (of21 _) 6 rfl rfl
theorem dX12_lean_117 : decode cX12_lean 117 = .ok (.iaload, 1) := dec_0 oX12_lean (of46 _) rfl
theorem dX12_lean_118 : decode cX12_lean 118 = .ok (.isub, 1) := dec_0 oX12_lean (of100 _) rfl
theorem dX12_lean_119 : decode cX12_lean 119 = .ok (.bipush 101, 2) := dec_s1 oX12_lean (of16 _) 101 rfl (sg8p rfl) rfl
theorem dX12_lean_121 : decode cX12_lean 121 = .ok (.if_icmp .ne 6, 3) := dec_s2 oX12_lean (of160 _) 0 6 rfl (sg16p rfl) rfl
theorem dX12_lean_124 : decode cX12_lean 124 = .ok (.iinc 5 1, 3) := dec_ii oX12_lean (of132 _) 5 1 rfl (sg8p rfl) rfl
theorem dX12_lean_127 : decode cX12_lean 127 = .ok (.iinc 6 1, 3) := dec_ii oX12_lean (of132 _) 6 1 rfl (sg8p rfl) rfl
theorem dX12_lean_130 : decode cX12_lean 130 = .ok (.goto (-86), 3) := dec_s2 oX12_lean (of167 _) 255 170 rfl (sg16n (k := 86) rfl) rfl
theorem dX12_lean_133 : decode cX12_lean 133 = .ok (.iload_n 3, 1) := dec_0 oX12_lean (of29 _) rfl
theorem dX12_lean_134 : decode cX12_lean 134 = .ok (.ifCond .ne 8, 3) := dec_s2 oX12_lean (of154 _) 0 8 rfl (sg16p rfl) rfl
theorem dX12_lean_137 : decode cX12_lean 137 = .ok (.iload 4, 2) := dec_1 oX12_lean (of21 _) 4 rfl rfl
theorem dX12_lean_139 : decode cX12_lean 139 = .ok (.goto 5, 3) := dec_s2 oX12_lean (of167 _) 0 5 rfl (sg16p rfl) rfl
theorem dX12_lean_142 : decode cX12_lean 142 = .ok (.iload 5, 2) := dec_1 oX12_lean (of21 _) 5 rfl rfl
theorem dX12_lean_144 : decode cX12_lean 144 = .ok (.ireturn, 1) := dec_0 oX12_lean (of172 _) rfl
theorem dX12_fillsFar_0 : decode cX12_fillsFar 0 = .ok (.aload_n 0, 1) := dec_0 oX12_fillsFar (of42 _) rfl
theorem dX12_fillsFar_1 : decode cX12_fillsFar 1 = .ok (.invokevirtual 323, 3) := dec_2 oX12_fillsFar (of182 _) 1 67 rfl rfl
theorem dX12_fillsFar_4 : decode cX12_fillsFar 4 = .ok (.iconst 0, 1) := dec_0 oX12_fillsFar (of3 _) rfl
theorem dX12_fillsFar_5 : decode cX12_fillsFar 5 = .ok (.istore_n 2, 1) := dec_0 oX12_fillsFar (of61 _) rfl
theorem dX12_fillsFar_6 : decode cX12_fillsFar 6 = .ok (.iload_n 2, 1) := dec_0 oX12_fillsFar (of28 _) rfl
theorem dX12_fillsFar_7 : decode cX12_fillsFar 7 = .ok (.sipush 160, 3) := dec_s2 oX12_fillsFar (of17 _) 0 160 rfl (sg16p rfl) rfl
theorem dX12_fillsFar_10 : decode cX12_fillsFar 10 = .ok (.if_icmp .ge 34, 3) := dec_s2 oX12_fillsFar (of162 _) 0 34 rfl (sg16p rfl) rfl
theorem dX12_fillsFar_13 : decode cX12_fillsFar 13 = .ok (.aload_n 0, 1) := dec_0 oX12_fillsFar (of42 _) rfl
theorem dX12_fillsFar_14 : decode cX12_fillsFar 14 = .ok (.getfield 91, 3) := dec_2 oX12_fillsFar (of180 _) 0 91 rfl rfl
theorem dX12_fillsFar_17 : decode cX12_fillsFar 17 = .ok (.iload_n 2, 1) := dec_0 oX12_fillsFar (of28 _) rfl
theorem dX12_fillsFar_18 : decode cX12_fillsFar 18 = .ok (.aload_n 0, 1) := dec_0 oX12_fillsFar (of42 _) rfl
theorem dX12_fillsFar_19 : decode cX12_fillsFar 19 = .ok (.iload_n 1, 1) := dec_0 oX12_fillsFar (of27 _) rfl
theorem dX12_fillsFar_20 : decode cX12_fillsFar 20 = .ok (.iload_n 2, 1) := dec_0 oX12_fillsFar (of28 _) rfl
theorem dX12_fillsFar_21 : decode cX12_fillsFar 21 = .ok (.invokevirtual 342, 3) := dec_2 oX12_fillsFar (of182 _) 1 86 rfl rfl
theorem dX12_fillsFar_24 : decode cX12_fillsFar 24 = .ok (.ifCond .eq 12, 3) := dec_s2 oX12_fillsFar (of153 _) 0 12 rfl (sg16p rfl) rfl
theorem dX12_fillsFar_27 : decode cX12_fillsFar 27 = .ok (.aload_n 0, 1) := dec_0 oX12_fillsFar (of42 _) rfl
theorem dX12_fillsFar_28 : decode cX12_fillsFar 28 = .ok (.iload_n 1, 1) := dec_0 oX12_fillsFar (of27 _) rfl
theorem dX12_fillsFar_29 : decode cX12_fillsFar 29 = .ok (.iload_n 2, 1) := dec_0 oX12_fillsFar (of28 _) rfl
theorem dX12_fillsFar_30 : decode cX12_fillsFar 30 = .ok (.invokevirtual 345, 3) := dec_2 oX12_fillsFar (of182 _) 1 89 rfl rfl
theorem dX12_fillsFar_33 : decode cX12_fillsFar 33 = .ok (.goto 4, 3) := dec_s2 oX12_fillsFar (of167 _) 0 4 rfl (sg16p rfl) rfl
theorem dX12_fillsFar_36 : decode cX12_fillsFar 36 = .ok (.iconst (-1), 1) := dec_0 oX12_fillsFar (of2 _) rfl
theorem dX12_fillsFar_37 : decode cX12_fillsFar 37 = .ok (.iastore, 1) := dec_0 oX12_fillsFar (of79 _) rfl
theorem dX12_fillsFar_38 : decode cX12_fillsFar 38 = .ok (.iinc 2 1, 3) := dec_ii oX12_fillsFar (of132 _) 2 1 rfl (sg8p rfl) rfl
theorem dX12_fillsFar_41 : decode cX12_fillsFar 41 = .ok (.goto (-35), 3) := dec_s2 oX12_fillsFar (of167 _) 255 221 rfl (sg16n (k := 35) rfl) rfl
theorem dX12_fillsFar_44 : decode cX12_fillsFar 44 = .ok (.return_, 1) := dec_0 oX12_fillsFar (of177 _) rfl
theorem dX12_bestWindow_0 : decode cX12_bestWindow 0 = .ok (.bipush (-2), 2) := dec_s1 oX12_bestWindow (of16 _) 254 rfl (sg8n (k := 2) rfl) rfl
theorem dX12_bestWindow_2 : decode cX12_bestWindow 2 = .ok (.istore_n 1, 1) := dec_0 oX12_bestWindow (of60 _) rfl
theorem dX12_bestWindow_3 : decode cX12_bestWindow 3 = .ok (.iconst 0, 1) := dec_0 oX12_bestWindow (of3 _) rfl
theorem dX12_bestWindow_4 : decode cX12_bestWindow 4 = .ok (.istore_n 2, 1) := dec_0 oX12_bestWindow (of61 _) rfl
theorem dX12_bestWindow_5 : decode cX12_bestWindow 5 = .ok (.iload_n 2, 1) := dec_0 oX12_bestWindow (of28 _) rfl
theorem dX12_bestWindow_6 : decode cX12_bestWindow 6 = .ok (.sipush 160, 3) := dec_s2 oX12_bestWindow (of17 _) 0 160 rfl (sg16p rfl) rfl
theorem dX12_bestWindow_9 : decode cX12_bestWindow 9 = .ok (.if_icmp .ge 39, 3) := dec_s2 oX12_bestWindow (of162 _) 0 39 rfl (sg16p rfl) rfl
theorem dX12_bestWindow_12 : decode cX12_bestWindow 12 = .ok (.aload_n 0, 1) := dec_0 oX12_bestWindow (of42 _) rfl
theorem dX12_bestWindow_13 : decode cX12_bestWindow 13 = .ok (.getfield 91, 3) := dec_2 oX12_bestWindow (of180 _) 0 91 rfl rfl
theorem dX12_bestWindow_16 : decode cX12_bestWindow 16 = .ok (.iload_n 2, 1) := dec_0 oX12_bestWindow (of28 _) rfl
theorem dX12_bestWindow_17 : decode cX12_bestWindow 17 = .ok (.iaload, 1) := dec_0 oX12_bestWindow (of46 _) rfl
theorem dX12_bestWindow_18 : decode cX12_bestWindow 18 = .ok (.ifCond .lt 24, 3) := dec_s2 oX12_bestWindow (of155 _) 0 24 rfl (sg16p rfl) rfl
theorem dX12_bestWindow_21 : decode cX12_bestWindow 21 = .ok (.iload_n 1, 1) := dec_0 oX12_bestWindow (of27 _) rfl
theorem dX12_bestWindow_22 : decode cX12_bestWindow 22 = .ok (.ifCond .lt 18, 3) := dec_s2 oX12_bestWindow (of155 _) 0 18 rfl (sg16p rfl) rfl
theorem dX12_bestWindow_25 : decode cX12_bestWindow 25 = .ok (.aload_n 0, 1) := dec_0 oX12_bestWindow (of42 _) rfl
theorem dX12_bestWindow_26 : decode cX12_bestWindow 26 = .ok (.getfield 91, 3) := dec_2 oX12_bestWindow (of180 _) 0 91 rfl rfl
theorem dX12_bestWindow_29 : decode cX12_bestWindow 29 = .ok (.iload_n 2, 1) := dec_0 oX12_bestWindow (of28 _) rfl
theorem dX12_bestWindow_30 : decode cX12_bestWindow 30 = .ok (.iaload, 1) := dec_0 oX12_bestWindow (of46 _) rfl
theorem dX12_bestWindow_31 : decode cX12_bestWindow 31 = .ok (.aload_n 0, 1) := dec_0 oX12_bestWindow (of42 _) rfl
theorem dX12_bestWindow_32 : decode cX12_bestWindow 32 = .ok (.getfield 91, 3) := dec_2 oX12_bestWindow (of180 _) 0 91 rfl rfl
theorem dX12_bestWindow_35 : decode cX12_bestWindow 35 = .ok (.iload_n 1, 1) := dec_0 oX12_bestWindow (of27 _) rfl
theorem dX12_bestWindow_36 : decode cX12_bestWindow 36 = .ok (.iaload, 1) := dec_0 oX12_bestWindow (of46 _) rfl
theorem dX12_bestWindow_37 : decode cX12_bestWindow 37 = .ok (.if_icmp .ge 5, 3) := dec_s2 oX12_bestWindow (of162 _) 0 5 rfl (sg16p rfl) rfl
theorem dX12_bestWindow_40 : decode cX12_bestWindow 40 = .ok (.iload_n 2, 1) := dec_0 oX12_bestWindow (of28 _) rfl
theorem dX12_bestWindow_41 : decode cX12_bestWindow 41 = .ok (.istore_n 1, 1) := dec_0 oX12_bestWindow (of60 _) rfl
theorem dX12_bestWindow_42 : decode cX12_bestWindow 42 = .ok (.iinc 2 1, 3) := dec_ii oX12_bestWindow (of132 _) 2 1 rfl (sg8p rfl) rfl
theorem dX12_bestWindow_45 : decode cX12_bestWindow 45 = .ok (.goto (-40), 3) := dec_s2 oX12_bestWindow (of167 _) 255 216 rfl (sg16n (k := 40) rfl) rfl
theorem dX12_bestWindow_48 : decode cX12_bestWindow 48 = .ok (.iload_n 1, 1) := dec_0 oX12_bestWindow (of27 _) rfl
theorem dX12_bestWindow_49 : decode cX12_bestWindow 49 = .ok (.ireturn, 1) := dec_0 oX12_bestWindow (of172 _) rfl
theorem dX12_best_8 : decode cX12_best 8 = .ok (.iload_n 2, 1) := dec_0 oX12_best (of28 _) rfl
theorem dX12_best_9 : decode cX12_best 9 = .ok (.iconst 0, 1) := dec_0 oX12_best (of3 _) rfl
theorem dX12_best_10 : decode cX12_best 10 = .ok (.iconst 1, 1) := dec_0 oX12_best (of4 _) rfl
theorem dX12_best_11 : decode cX12_best 11 = .ok (.invokestatic 244, 3) := dec_2 oX12_best (of184 _) 0 244 rfl rfl
theorem dX12_best_14 : decode cX12_best 14 = .ok (.ifCond .ne 5, 3) := dec_s2 oX12_best (of154 _) 0 5 rfl (sg16p rfl) rfl
theorem dX12_best_19 : decode cX12_best 19 = .ok (.aload_n 0, 1) := dec_0 oX12_best (of42 _) rfl
theorem dX12_best_20 : decode cX12_best 20 = .ok (.iload_n 1, 1) := dec_0 oX12_best (of27 _) rfl
theorem dX12_best_21 : decode cX12_best 21 = .ok (.invokevirtual 357, 3) := dec_2 oX12_best (of182 _) 1 101 rfl rfl
theorem dX12_best_24 : decode cX12_best 24 = .ok (.aload_n 0, 1) := dec_0 oX12_best (of42 _) rfl
theorem dX12_best_25 : decode cX12_best 25 = .ok (.invokevirtual 360, 3) := dec_2 oX12_best (of182 _) 1 104 rfl rfl
theorem dX12_best_28 : decode cX12_best 28 = .ok (.istore_n 3, 1) := dec_0 oX12_best (of62 _) rfl
theorem dX12_best_29 : decode cX12_best 29 = .ok (.iload_n 3, 1) := dec_0 oX12_best (of29 _) rfl
theorem dX12_best_30 : decode cX12_best 30 = .ok (.ifCond .lt 7, 3) := dec_s2 oX12_best (of155 _) 0 7 rfl (sg16p rfl) rfl
theorem dX12_best_33 : decode cX12_best 33 = .ok (.iload_n 2, 1) := dec_0 oX12_best (of28 _) rfl
theorem dX12_best_34 : decode cX12_best 34 = .ok (.ifCond .ne 7, 3) := dec_s2 oX12_best (of154 _) 0 7 rfl (sg16p rfl) rfl
theorem dX12_best_37 : decode cX12_best 37 = .ok (.iload_n 3, 1) := dec_0 oX12_best (of29 _) rfl
theorem dX12_best_38 : decode cX12_best 38 = .ok (.goto 9, 3) := dec_s2 oX12_best (of167 _) 0 9 rfl (sg16p rfl) rfl
theorem dX12_best_41 : decode cX12_best 41 = .ok (.aload_n 0, 1) := dec_0 oX12_best (of42 _) rfl
theorem dX12_best_42 : decode cX12_best 42 = .ok (.getfield 91, 3) := dec_2 oX12_best (of180 _) 0 91 rfl rfl
theorem dX12_best_45 : decode cX12_best 45 = .ok (.iload_n 3, 1) := dec_0 oX12_best (of29 _) rfl
theorem dX12_best_46 : decode cX12_best 46 = .ok (.iaload, 1) := dec_0 oX12_best (of46 _) rfl
theorem dX12_best_47 : decode cX12_best 47 = .ok (.ireturn, 1) := dec_0 oX12_best (of172 _) rfl
theorem dX12_needs_11 : decode cX12_needs 11 = .ok (.aload_n 0, 1) := dec_0 oX12_needs (of42 _) rfl
theorem dX12_needs_12 : decode cX12_needs 12 = .ok (.getfield 70, 3) := dec_2 oX12_needs (of180 _) 0 70 rfl rfl
theorem dX12_needs_15 : decode cX12_needs 15 = .ok (.sipush 161, 3) := dec_s2 oX12_needs (of17 _) 0 161 rfl (sg16p rfl) rfl
theorem dX12_needs_18 : decode cX12_needs 18 = .ok (.iaload, 1) := dec_0 oX12_needs (of46 _) rfl
theorem dX12_needs_19 : decode cX12_needs 19 = .ok (.istore_n 3, 1) := dec_0 oX12_needs (of62 _) rfl
theorem dX12_needs_20 : decode cX12_needs 20 = .ok (.bipush (-2), 2) := dec_s1 oX12_needs (of16 _) 254 rfl (sg8n (k := 2) rfl) rfl
theorem dX12_needs_22 : decode cX12_needs 22 = .ok (.istore 4, 2) := dec_1 oX12_needs (of54 _) 4 rfl rfl
theorem dX12_needs_24 : decode cX12_needs 24 = .ok (.bipush 15, 2) := dec_s1 oX12_needs (of16 _) 15 rfl (sg8p rfl) rfl
theorem dX12_needs_26 : decode cX12_needs 26 = .ok (.istore 5, 2) := dec_1 oX12_needs (of54 _) 5 rfl rfl
theorem dX12_needs_28 : decode cX12_needs 28 = .ok (.iload 5, 2) := dec_1 oX12_needs (of21 _) 5 rfl rfl
theorem dX12_needs_30 : decode cX12_needs 30 = .ok (.ifCond .lt 36, 3) := dec_s2 oX12_needs (of155 _) 0 36 rfl (sg16p rfl) rfl
theorem dX12_needs_33 : decode cX12_needs 33 = .ok (.aload_n 0, 1) := dec_0 oX12_needs (of42 _) rfl
theorem dX12_needs_34 : decode cX12_needs 34 = .ok (.getfield 70, 3) := dec_2 oX12_needs (of180 _) 0 70 rfl rfl
theorem dX12_needs_37 : decode cX12_needs 37 = .ok (.sipush 161, 3) := dec_s2 oX12_needs (of17 _) 0 161 rfl (sg16p rfl) rfl
theorem dX12_needs_40 : decode cX12_needs 40 = .ok (.iload 5, 2) := dec_1 oX12_needs (of21 _) 5 rfl rfl
theorem dX12_needs_42 : decode cX12_needs 42 = .ok (.iastore, 1) := dec_0 oX12_needs (of79 _) rfl
theorem dX12_needs_43 : decode cX12_needs 43 = .ok (.aload_n 0, 1) := dec_0 oX12_needs (of42 _) rfl
theorem dX12_needs_44 : decode cX12_needs 44 = .ok (.iload_n 1, 1) := dec_0 oX12_needs (of27 _) rfl
theorem dX12_needs_45 : decode cX12_needs 45 = .ok (.invokevirtual 357, 3) := dec_2 oX12_needs (of182 _) 1 101 rfl rfl
theorem dX12_needs_48 : decode cX12_needs 48 = .ok (.aload_n 0, 1) := dec_0 oX12_needs (of42 _) rfl
theorem dX12_needs_49 : decode cX12_needs 49 = .ok (.invokevirtual 360, 3) := dec_2 oX12_needs (of182 _) 1 104 rfl rfl
theorem dX12_needs_52 : decode cX12_needs 52 = .ok (.iload_n 2, 1) := dec_0 oX12_needs (of28 _) rfl
theorem dX12_needs_53 : decode cX12_needs 53 = .ok (.if_icmp .ne 7, 3) := dec_s2 oX12_needs (of160 _) 0 7 rfl (sg16p rfl) rfl
theorem dX12_needs_56 : decode cX12_needs 56 = .ok (.iload 5, 2) := dec_1 oX12_needs (of21 _) 5 rfl rfl
theorem dX12_needs_58 : decode cX12_needs 58 = .ok (.istore 4, 2) := dec_1 oX12_needs (of54 _) 4 rfl rfl
theorem dX12_needs_60 : decode cX12_needs 60 = .ok (.iinc 5 (-1), 3) := dec_ii oX12_needs (of132 _) 5 255 rfl (sg8n (k := 1) rfl) rfl
theorem dX12_needs_63 : decode cX12_needs 63 = .ok (.goto (-35), 3) := dec_s2 oX12_needs (of167 _) 255 221 rfl (sg16n (k := 35) rfl) rfl
theorem dX12_needs_66 : decode cX12_needs 66 = .ok (.aload_n 0, 1) := dec_0 oX12_needs (of42 _) rfl
theorem dX12_needs_67 : decode cX12_needs 67 = .ok (.getfield 70, 3) := dec_2 oX12_needs (of180 _) 0 70 rfl rfl
theorem dX12_needs_70 : decode cX12_needs 70 = .ok (.sipush 161, 3) := dec_s2 oX12_needs (of17 _) 0 161 rfl (sg16p rfl) rfl
theorem dX12_needs_73 : decode cX12_needs 73 = .ok (.iload_n 3, 1) := dec_0 oX12_needs (of29 _) rfl
theorem dX12_needs_74 : decode cX12_needs 74 = .ok (.iastore, 1) := dec_0 oX12_needs (of79 _) rfl
theorem dX12_needs_75 : decode cX12_needs 75 = .ok (.iload 4, 2) := dec_1 oX12_needs (of21 _) 4 rfl rfl
theorem dX12_needs_77 : decode cX12_needs 77 = .ok (.ireturn, 1) := dec_0 oX12_needs (of172 _) rfl
theorem dX12_fillsSearch_0 : decode cX12_fillsSearch 0 = .ok (.aload_n 0, 1) := dec_0 oX12_fillsSearch (of42 _) rfl
theorem dX12_fillsSearch_1 : decode cX12_fillsSearch 1 = .ok (.invokevirtual 323, 3) := dec_2 oX12_fillsSearch (of182 _) 1 67 rfl rfl
theorem dX12_fillsSearch_4 : decode cX12_fillsSearch 4 = .ok (.iconst 0, 1) := dec_0 oX12_fillsSearch (of3 _) rfl
theorem dX12_fillsSearch_5 : decode cX12_fillsSearch 5 = .ok (.istore_n 2, 1) := dec_0 oX12_fillsSearch (of61 _) rfl
theorem dX12_fillsSearch_6 : decode cX12_fillsSearch 6 = .ok (.iload_n 2, 1) := dec_0 oX12_fillsSearch (of28 _) rfl
theorem dX12_fillsSearch_7 : decode cX12_fillsSearch 7 = .ok (.bipush 9, 2) := dec_s1 oX12_fillsSearch (of16 _) 9 rfl (sg8p rfl) rfl
theorem dX12_fillsSearch_9 : decode cX12_fillsSearch 9 = .ok (.if_icmp .ge 16, 3) := dec_s2 oX12_fillsSearch (of162 _) 0 16 rfl (sg16p rfl) rfl
theorem dX12_fillsSearch_12 : decode cX12_fillsSearch 12 = .ok (.aload_n 0, 1) := dec_0 oX12_fillsSearch (of42 _) rfl
theorem dX12_fillsSearch_13 : decode cX12_fillsSearch 13 = .ok (.getfield 94, 3) := dec_2 oX12_fillsSearch (of180 _) 0 94 rfl rfl
theorem dX12_fillsSearch_16 : decode cX12_fillsSearch 16 = .ok (.iload_n 2, 1) := dec_0 oX12_fillsSearch (of28 _) rfl
theorem dX12_fillsSearch_17 : decode cX12_fillsSearch 17 = .ok (.iconst 0, 1) := dec_0 oX12_fillsSearch (of3 _) rfl
theorem dX12_fillsSearch_18 : decode cX12_fillsSearch 18 = .ok (.iastore, 1) := dec_0 oX12_fillsSearch (of79 _) rfl
theorem dX12_fillsSearch_19 : decode cX12_fillsSearch 19 = .ok (.iinc 2 1, 3) := dec_ii oX12_fillsSearch (of132 _) 2 1 rfl (sg8p rfl) rfl
theorem dX12_fillsSearch_22 : decode cX12_fillsSearch 22 = .ok (.goto (-16), 3) := dec_s2 oX12_fillsSearch (of167 _) 255 240 rfl (sg16n (k := 16) rfl) rfl
theorem dX12_fillsSearch_25 : decode cX12_fillsSearch 25 = .ok (.ldc_w 282, 3) := dec_2 oX12_fillsSearch (of19 _) 1 26 rfl rfl
theorem dX12_fillsSearch_28 : decode cX12_fillsSearch 28 = .ok (.istore_n 2, 1) := dec_0 oX12_fillsSearch (of61 _) rfl
theorem dX12_fillsSearch_29 : decode cX12_fillsSearch 29 = .ok (.iconst 0, 1) := dec_0 oX12_fillsSearch (of3 _) rfl
theorem dX12_fillsSearch_30 : decode cX12_fillsSearch 30 = .ok (.istore_n 3, 1) := dec_0 oX12_fillsSearch (of62 _) rfl
theorem dX12_fillsSearch_31 : decode cX12_fillsSearch 31 = .ok (.iload_n 3, 1) := dec_0 oX12_fillsSearch (of29 _) rfl
theorem dX12_fillsSearch_32 : decode cX12_fillsSearch 32 = .ok (.sipush 160, 3) := dec_s2 oX12_fillsSearch (of17 _) 0 160 rfl (sg16p rfl) rfl
theorem dX12_fillsSearch_35 : decode cX12_fillsSearch 35 = .ok (.if_icmp .ge 107, 3) := dec_s2 oX12_fillsSearch (of162 _) 0 107 rfl (sg16p rfl) rfl
theorem dX12_fillsSearch_38 : decode cX12_fillsSearch 38 = .ok (.aload_n 0, 1) := dec_0 oX12_fillsSearch (of42 _) rfl
theorem dX12_fillsSearch_39 : decode cX12_fillsSearch 39 = .ok (.iload_n 1, 1) := dec_0 oX12_fillsSearch (of27 _) rfl
theorem dX12_fillsSearch_40 : decode cX12_fillsSearch 40 = .ok (.iload_n 3, 1) := dec_0 oX12_fillsSearch (of29 _) rfl
theorem dX12_fillsSearch_41 : decode cX12_fillsSearch 41 = .ok (.invokevirtual 342, 3) := dec_2 oX12_fillsSearch (of182 _) 1 86 rfl rfl
theorem dX12_fillsSearch_44 : decode cX12_fillsSearch 44 = .ok (.ifCond .ne 6, 3) := dec_s2 oX12_fillsSearch (of154 _) 0 6 rfl (sg16p rfl) rfl
theorem dX12_fillsSearch_47 : decode cX12_fillsSearch 47 = .ok (.goto 89, 3) := dec_s2 oX12_fillsSearch (of167 _) 0 89 rfl (sg16p rfl) rfl
theorem dX12_fillsSearch_50 : decode cX12_fillsSearch 50 = .ok (.aload_n 0, 1) := dec_0 oX12_fillsSearch (of42 _) rfl
theorem dX12_fillsSearch_51 : decode cX12_fillsSearch 51 = .ok (.iload_n 1, 1) := dec_0 oX12_fillsSearch (of27 _) rfl
theorem dX12_fillsSearch_52 : decode cX12_fillsSearch 52 = .ok (.iload_n 3, 1) := dec_0 oX12_fillsSearch (of29 _) rfl
theorem dX12_fillsSearch_53 : decode cX12_fillsSearch 53 = .ok (.iload_n 2, 1) := dec_0 oX12_fillsSearch (of28 _) rfl
theorem dX12_fillsSearch_54 : decode cX12_fillsSearch 54 = .ok (.invokevirtual 348, 3) := dec_2 oX12_fillsSearch (of182 _) 1 92 rfl rfl
theorem dX12_fillsSearch_57 : decode cX12_fillsSearch 57 = .ok (.istore 4, 2) := dec_1 oX12_fillsSearch (of54 _) 4 rfl rfl
theorem dX12_fillsSearch_59 : decode cX12_fillsSearch 59 = .ok (.aload_n 0, 1) := dec_0 oX12_fillsSearch (of42 _) rfl
theorem dX12_fillsSearch_60 : decode cX12_fillsSearch 60 = .ok (.getfield 94, 3) := dec_2 oX12_fillsSearch (of180 _) 0 94 rfl rfl
theorem dX12_fillsSearch_63 : decode cX12_fillsSearch 63 = .ok (.iconst 0, 1) := dec_0 oX12_fillsSearch (of3 _) rfl
theorem dX12_fillsSearch_64 : decode cX12_fillsSearch 64 = .ok (.dup2, 1) := dec_0 oX12_fillsSearch (of92 _) rfl
theorem dX12_fillsSearch_65 : decode cX12_fillsSearch 65 = .ok (.iaload, 1) := dec_0 oX12_fillsSearch (of46 _) rfl
theorem dX12_fillsSearch_66 : decode cX12_fillsSearch 66 = .ok (.iconst 1, 1) := dec_0 oX12_fillsSearch (of4 _) rfl
theorem dX12_fillsSearch_67 : decode cX12_fillsSearch 67 = .ok (.iadd, 1) := dec_0 oX12_fillsSearch (of96 _) rfl
theorem dX12_fillsSearch_68 : decode cX12_fillsSearch 68 = .ok (.iastore, 1) := dec_0 oX12_fillsSearch (of79 _) rfl
theorem dX12_fillsSearch_69 : decode cX12_fillsSearch 69 = .ok (.aload_n 0, 1) := dec_0 oX12_fillsSearch (of42 _) rfl
theorem dX12_fillsSearch_70 : decode cX12_fillsSearch 70 = .ok (.getfield 94, 3) := dec_2 oX12_fillsSearch (of180 _) 0 94 rfl rfl
theorem dX12_fillsSearch_73 : decode cX12_fillsSearch 73 = .ok (.iload 4, 2) := dec_1 oX12_fillsSearch (of21 _) 4 rfl rfl
theorem dX12_fillsSearch_75 : decode cX12_fillsSearch 75 = .ok (.ifCond .ne 8, 3) := dec_s2 oX12_fillsSearch (of154 _) 0 8 rfl (sg16p rfl) rfl
theorem dX12_fillsSearch_78 : decode cX12_fillsSearch 78 = .ok (.bipush 7, 2) := dec_s1 oX12_fillsSearch (of16 _) 7 rfl (sg8p rfl) rfl
theorem dX12_fillsSearch_80 : decode cX12_fillsSearch 80 = .ok (.goto 5, 3) := dec_s2 oX12_fillsSearch (of167 _) 0 5 rfl (sg16p rfl) rfl
theorem dX12_fillsSearch_83 : decode cX12_fillsSearch 83 = .ok (.iload 4, 2) := dec_1 oX12_fillsSearch (of21 _) 4 rfl rfl
theorem dX12_fillsSearch_85 : decode cX12_fillsSearch 85 = .ok (.dup2, 1) := dec_0 oX12_fillsSearch (of92 _) rfl
theorem dX12_fillsSearch_86 : decode cX12_fillsSearch 86 = .ok (.iaload, 1) := dec_0 oX12_fillsSearch (of46 _) rfl
theorem dX12_fillsSearch_87 : decode cX12_fillsSearch 87 = .ok (.iconst 1, 1) := dec_0 oX12_fillsSearch (of4 _) rfl
theorem dX12_fillsSearch_88 : decode cX12_fillsSearch 88 = .ok (.iadd, 1) := dec_0 oX12_fillsSearch (of96 _) rfl
theorem dX12_fillsSearch_89 : decode cX12_fillsSearch 89 = .ok (.iastore, 1) := dec_0 oX12_fillsSearch (of79 _) rfl
theorem dX12_fillsSearch_90 : decode cX12_fillsSearch 90 = .ok (.aload_n 0, 1) := dec_0 oX12_fillsSearch (of42 _) rfl
theorem dX12_fillsSearch_91 : decode cX12_fillsSearch 91 = .ok (.getfield 94, 3) := dec_2 oX12_fillsSearch (of180 _) 0 94 rfl rfl
theorem dX12_fillsSearch_94 : decode cX12_fillsSearch 94 = .ok (.bipush 6, 2) := dec_s1 oX12_fillsSearch (of16 _) 6 rfl (sg8p rfl) rfl
theorem dX12_fillsSearch_96 : decode cX12_fillsSearch 96 = .ok (.dup2, 1) := dec_0 oX12_fillsSearch (of92 _) rfl
theorem dX12_fillsSearch_97 : decode cX12_fillsSearch 97 = .ok (.iaload, 1) := dec_0 oX12_fillsSearch (of46 _) rfl
theorem dX12_fillsSearch_98 : decode cX12_fillsSearch 98 = .ok (.aload_n 0, 1) := dec_0 oX12_fillsSearch (of42 _) rfl
theorem dX12_fillsSearch_99 : decode cX12_fillsSearch 99 = .ok (.getfield 292, 3) := dec_2 oX12_fillsSearch (of180 _) 1 36 rfl rfl
theorem dX12_fillsSearch_102 : decode cX12_fillsSearch 102 = .ok (.iadd, 1) := dec_0 oX12_fillsSearch (of96 _) rfl
theorem dX12_fillsSearch_103 : decode cX12_fillsSearch 103 = .ok (.iastore, 1) := dec_0 oX12_fillsSearch (of79 _) rfl
theorem dX12_fillsSearch_104 : decode cX12_fillsSearch 104 = .ok (.iload 4, 2) := dec_1 oX12_fillsSearch (of21 _) 4 rfl rfl
theorem dX12_fillsSearch_106 : decode cX12_fillsSearch 106 = .ok (.iconst 4, 1) := dec_0 oX12_fillsSearch (of7 _) rfl
theorem dX12_fillsSearch_107 : decode cX12_fillsSearch 107 = .ok (.if_icmp .ne 19, 3) := dec_s2 oX12_fillsSearch (of160 _) 0 19 rfl (sg16p rfl) rfl
theorem dX12_fillsSearch_110 : decode cX12_fillsSearch 110 = .ok (.aload_n 0, 1) := dec_0 oX12_fillsSearch (of42 _) rfl
theorem dX12_fillsSearch_111 : decode cX12_fillsSearch 111 = .ok (.getfield 94, 3) := dec_2 oX12_fillsSearch (of180 _) 0 94 rfl rfl
theorem dX12_fillsSearch_114 : decode cX12_fillsSearch 114 = .ok (.bipush 8, 2) := dec_s1 oX12_fillsSearch (of16 _) 8 rfl (sg8p rfl) rfl
theorem dX12_fillsSearch_116 : decode cX12_fillsSearch 116 = .ok (.dup2, 1) := dec_0 oX12_fillsSearch (of92 _) rfl
theorem dX12_fillsSearch_117 : decode cX12_fillsSearch 117 = .ok (.iaload, 1) := dec_0 oX12_fillsSearch (of46 _) rfl
theorem dX12_fillsSearch_118 : decode cX12_fillsSearch 118 = .ok (.aload_n 0, 1) := dec_0 oX12_fillsSearch (of42 _) rfl
theorem dX12_fillsSearch_119 : decode cX12_fillsSearch 119 = .ok (.getfield 295, 3) := dec_2 oX12_fillsSearch (of180 _) 1 39 rfl rfl
theorem dX12_fillsSearch_122 : decode cX12_fillsSearch 122 = .ok (.iconst 1, 1) := dec_0 oX12_fillsSearch (of4 _) rfl
theorem dX12_fillsSearch_123 : decode cX12_fillsSearch 123 = .ok (.iadd, 1) := dec_0 oX12_fillsSearch (of96 _) rfl
theorem dX12_fillsSearch_124 : decode cX12_fillsSearch 124 = .ok (.iadd, 1) := dec_0 oX12_fillsSearch (of96 _) rfl
theorem dX12_fillsSearch_125 : decode cX12_fillsSearch 125 = .ok (.iastore, 1) := dec_0 oX12_fillsSearch (of79 _) rfl
theorem dX12_fillsSearch_126 : decode cX12_fillsSearch 126 = .ok (.iload 4, 2) := dec_1 oX12_fillsSearch (of21 _) 4 rfl rfl
theorem dX12_fillsSearch_128 : decode cX12_fillsSearch 128 = .ok (.ifCond .ne 8, 3) := dec_s2 oX12_fillsSearch (of154 _) 0 8 rfl (sg16p rfl) rfl
theorem dX12_fillsSearch_131 : decode cX12_fillsSearch 131 = .ok (.aload_n 0, 1) := dec_0 oX12_fillsSearch (of42 _) rfl
theorem dX12_fillsSearch_132 : decode cX12_fillsSearch 132 = .ok (.getfield 311, 3) := dec_2 oX12_fillsSearch (of180 _) 1 55 rfl rfl
theorem dX12_fillsSearch_135 : decode cX12_fillsSearch 135 = .ok (.istore_n 2, 1) := dec_0 oX12_fillsSearch (of61 _) rfl
theorem dX12_fillsSearch_136 : decode cX12_fillsSearch 136 = .ok (.iinc 3 1, 3) := dec_ii oX12_fillsSearch (of132 _) 3 1 rfl (sg8p rfl) rfl
theorem dX12_fillsSearch_139 : decode cX12_fillsSearch 139 = .ok (.goto (-108), 3) := dec_s2 oX12_fillsSearch (of167 _) 255 148 rfl (sg16n (k := 108) rfl) rfl
theorem dX12_fillsSearch_142 : decode cX12_fillsSearch 142 = .ok (.return_, 1) := dec_0 oX12_fillsSearch (of177 _) rfl
theorem dX12_search_8 : decode cX12_search 8 = .ok (.iload_n 2, 1) := dec_0 oX12_search (of28 _) rfl
theorem dX12_search_9 : decode cX12_search 9 = .ok (.iconst 0, 1) := dec_0 oX12_search (of3 _) rfl
theorem dX12_search_10 : decode cX12_search 10 = .ok (.bipush 8, 2) := dec_s1 oX12_search (of16 _) 8 rfl (sg8p rfl) rfl
theorem dX12_search_12 : decode cX12_search 12 = .ok (.invokestatic 244, 3) := dec_2 oX12_search (of184 _) 0 244 rfl rfl
theorem dX12_search_15 : decode cX12_search 15 = .ok (.ifCond .ne 5, 3) := dec_s2 oX12_search (of154 _) 0 5 rfl (sg16p rfl) rfl
theorem dX12_search_20 : decode cX12_search 20 = .ok (.aload_n 0, 1) := dec_0 oX12_search (of42 _) rfl
theorem dX12_search_21 : decode cX12_search 21 = .ok (.iload_n 1, 1) := dec_0 oX12_search (of27 _) rfl
theorem dX12_search_22 : decode cX12_search 22 = .ok (.invokevirtual 363, 3) := dec_2 oX12_search (of182 _) 1 107 rfl rfl
theorem dX12_search_25 : decode cX12_search 25 = .ok (.aload_n 0, 1) := dec_0 oX12_search (of42 _) rfl
theorem dX12_search_26 : decode cX12_search 26 = .ok (.getfield 94, 3) := dec_2 oX12_search (of180 _) 0 94 rfl rfl
theorem dX12_search_29 : decode cX12_search 29 = .ok (.iload_n 2, 1) := dec_0 oX12_search (of28 _) rfl
theorem dX12_search_30 : decode cX12_search 30 = .ok (.iaload, 1) := dec_0 oX12_search (of46 _) rfl
theorem dX12_search_31 : decode cX12_search 31 = .ok (.ireturn, 1) := dec_0 oX12_search (of172 _) rfl
theorem dX12_isApart_0 : decode cX12_isApart 0 = .ok (.iconst 0, 1) := dec_0 oX12_isApart (of3 _) rfl
theorem dX12_isApart_1 : decode cX12_isApart 1 = .ok (.istore_n 2, 1) := dec_0 oX12_isApart (of61 _) rfl
theorem dX12_isApart_2 : decode cX12_isApart 2 = .ok (.iload_n 2, 1) := dec_0 oX12_isApart (of28 _) rfl
theorem dX12_isApart_3 : decode cX12_isApart 3 = .ok (.aload_n 0, 1) := dec_0 oX12_isApart (of42 _) rfl
theorem dX12_isApart_4 : decode cX12_isApart 4 = .ok (.getfield 366, 3) := dec_2 oX12_isApart (of180 _) 1 110 rfl rfl
theorem dX12_isApart_7 : decode cX12_isApart 7 = .ok (.if_icmp .ge 45, 3) := dec_s2 oX12_isApart (of162 _) 0 45 rfl (sg16p rfl) rfl
theorem dX12_isApart_10 : decode cX12_isApart 10 = .ok (.iload_n 1, 1) := dec_0 oX12_isApart (of27 _) rfl
theorem dX12_isApart_11 : decode cX12_isApart 11 = .ok (.aload_n 0, 1) := dec_0 oX12_isApart (of42 _) rfl
theorem dX12_isApart_12 : decode cX12_isApart 12 = .ok (.getfield 97, 3) := dec_2 oX12_isApart (of180 _) 0 97 rfl rfl
theorem dX12_isApart_15 : decode cX12_isApart 15 = .ok (.iload_n 2, 1) := dec_0 oX12_isApart (of28 _) rfl
theorem dX12_isApart_16 : decode cX12_isApart 16 = .ok (.iaload, 1) := dec_0 oX12_isApart (of46 _) rfl
theorem dX12_isApart_17 : decode cX12_isApart 17 = .ok (.isub, 1) := dec_0 oX12_isApart (of100 _) rfl
theorem dX12_isApart_18 : decode cX12_isApart 18 = .ok (.iconst 1, 1) := dec_0 oX12_isApart (of4 _) rfl
theorem dX12_isApart_19 : decode cX12_isApart 19 = .ok (.aload_n 0, 1) := dec_0 oX12_isApart (of42 _) rfl
theorem dX12_isApart_20 : decode cX12_isApart 20 = .ok (.getfield 73, 3) := dec_2 oX12_isApart (of180 _) 0 73 rfl rfl
theorem dX12_isApart_23 : decode cX12_isApart 23 = .ok (.sipush 164, 3) := dec_s2 oX12_isApart (of17 _) 0 164 rfl (sg16p rfl) rfl
theorem dX12_isApart_26 : decode cX12_isApart 26 = .ok (.iaload, 1) := dec_0 oX12_isApart (of46 _) rfl
theorem dX12_isApart_27 : decode cX12_isApart 27 = .ok (.isub, 1) := dec_0 oX12_isApart (of100 _) rfl
theorem dX12_isApart_28 : decode cX12_isApart 28 = .ok (.aload_n 0, 1) := dec_0 oX12_isApart (of42 _) rfl
theorem dX12_isApart_29 : decode cX12_isApart 29 = .ok (.getfield 73, 3) := dec_2 oX12_isApart (of180 _) 0 73 rfl rfl
theorem dX12_isApart_32 : decode cX12_isApart 32 = .ok (.sipush 164, 3) := dec_s2 oX12_isApart (of17 _) 0 164 rfl (sg16p rfl) rfl
theorem dX12_isApart_35 : decode cX12_isApart 35 = .ok (.iaload, 1) := dec_0 oX12_isApart (of46 _) rfl
theorem dX12_isApart_36 : decode cX12_isApart 36 = .ok (.iconst 1, 1) := dec_0 oX12_isApart (of4 _) rfl
theorem dX12_isApart_37 : decode cX12_isApart 37 = .ok (.isub, 1) := dec_0 oX12_isApart (of100 _) rfl
theorem dX12_isApart_38 : decode cX12_isApart 38 = .ok (.invokestatic 244, 3) := dec_2 oX12_isApart (of184 _) 0 244 rfl rfl
theorem dX12_isApart_41 : decode cX12_isApart 41 = .ok (.ifCond .eq 5, 3) := dec_s2 oX12_isApart (of153 _) 0 5 rfl (sg16p rfl) rfl
theorem dX12_isApart_44 : decode cX12_isApart 44 = .ok (.iconst 0, 1) := dec_0 oX12_isApart (of3 _) rfl
theorem dX12_isApart_45 : decode cX12_isApart 45 = .ok (.ireturn, 1) := dec_0 oX12_isApart (of172 _) rfl
theorem dX12_isApart_46 : decode cX12_isApart 46 = .ok (.iinc 2 1, 3) := dec_ii oX12_isApart (of132 _) 2 1 rfl (sg8p rfl) rfl
theorem dX12_isApart_49 : decode cX12_isApart 49 = .ok (.goto (-47), 3) := dec_s2 oX12_isApart (of167 _) 255 209 rfl (sg16n (k := 47) rfl) rfl
theorem dX12_isApart_52 : decode cX12_isApart 52 = .ok (.iconst 1, 1) := dec_0 oX12_isApart (of4 _) rfl
theorem dX12_isApart_53 : decode cX12_isApart 53 = .ok (.ireturn, 1) := dec_0 oX12_isApart (of172 _) rfl
theorem dX12_fillsMatches_0 : decode cX12_fillsMatches 0 = .ok (.aload_n 0, 1) := dec_0 oX12_fillsMatches (of42 _) rfl
theorem dX12_fillsMatches_1 : decode cX12_fillsMatches 1 = .ok (.iload_n 1, 1) := dec_0 oX12_fillsMatches (of27 _) rfl
theorem dX12_fillsMatches_2 : decode cX12_fillsMatches 2 = .ok (.invokevirtual 357, 3) := dec_2 oX12_fillsMatches (of182 _) 1 101 rfl rfl
theorem dX12_fillsMatches_5 : decode cX12_fillsMatches 5 = .ok (.aload_n 0, 1) := dec_0 oX12_fillsMatches (of42 _) rfl
theorem dX12_fillsMatches_6 : decode cX12_fillsMatches 6 = .ok (.iconst 0, 1) := dec_0 oX12_fillsMatches (of3 _) rfl
theorem dX12_fillsMatches_7 : decode cX12_fillsMatches 7 = .ok (.putfield 366, 3) := dec_2 oX12_fillsMatches (of181 _) 1 110 rfl rfl
theorem dX12_fillsMatches_10 : decode cX12_fillsMatches 10 = .ok (.iconst 0, 1) := dec_0 oX12_fillsMatches (of3 _) rfl
theorem dX12_fillsMatches_11 : decode cX12_fillsMatches 11 = .ok (.istore_n 2, 1) := dec_0 oX12_fillsMatches (of61 _) rfl
theorem dX12_fillsMatches_12 : decode cX12_fillsMatches 12 = .ok (.iload_n 2, 1) := dec_0 oX12_fillsMatches (of28 _) rfl
theorem dX12_fillsMatches_13 : decode cX12_fillsMatches 13 = .ok (.ifCond .lt 86, 3) := dec_s2 oX12_fillsMatches (of155 _) 0 86 rfl (sg16p rfl) rfl
theorem dX12_fillsMatches_16 : decode cX12_fillsMatches 16 = .ok (.iconst (-1), 1) := dec_0 oX12_fillsMatches (of2 _) rfl
theorem dX12_fillsMatches_17 : decode cX12_fillsMatches 17 = .ok (.istore_n 2, 1) := dec_0 oX12_fillsMatches (of61 _) rfl
theorem dX12_fillsMatches_18 : decode cX12_fillsMatches 18 = .ok (.iconst 0, 1) := dec_0 oX12_fillsMatches (of3 _) rfl
theorem dX12_fillsMatches_19 : decode cX12_fillsMatches 19 = .ok (.istore_n 3, 1) := dec_0 oX12_fillsMatches (of62 _) rfl
theorem dX12_fillsMatches_20 : decode cX12_fillsMatches 20 = .ok (.iload_n 3, 1) := dec_0 oX12_fillsMatches (of29 _) rfl
theorem dX12_fillsMatches_21 : decode cX12_fillsMatches 21 = .ok (.sipush 160, 3) := dec_s2 oX12_fillsMatches (of17 _) 0 160 rfl (sg16p rfl) rfl
theorem dX12_fillsMatches_24 : decode cX12_fillsMatches 24 = .ok (.if_icmp .ge 47, 3) := dec_s2 oX12_fillsMatches (of162 _) 0 47 rfl (sg16p rfl) rfl
theorem dX12_fillsMatches_27 : decode cX12_fillsMatches 27 = .ok (.aload_n 0, 1) := dec_0 oX12_fillsMatches (of42 _) rfl
theorem dX12_fillsMatches_28 : decode cX12_fillsMatches 28 = .ok (.getfield 91, 3) := dec_2 oX12_fillsMatches (of180 _) 0 91 rfl rfl
theorem dX12_fillsMatches_31 : decode cX12_fillsMatches 31 = .ok (.iload_n 3, 1) := dec_0 oX12_fillsMatches (of29 _) rfl
theorem dX12_fillsMatches_32 : decode cX12_fillsMatches 32 = .ok (.iaload, 1) := dec_0 oX12_fillsMatches (of46 _) rfl
theorem dX12_fillsMatches_33 : decode cX12_fillsMatches 33 = .ok (.ifCond .lt 32, 3) := dec_s2 oX12_fillsMatches (of155 _) 0 32 rfl (sg16p rfl) rfl
theorem dX12_fillsMatches_36 : decode cX12_fillsMatches 36 = .ok (.aload_n 0, 1) := dec_0 oX12_fillsMatches (of42 _) rfl
theorem dX12_fillsMatches_37 : decode cX12_fillsMatches 37 = .ok (.iload_n 3, 1) := dec_0 oX12_fillsMatches (of29 _) rfl
theorem dX12_fillsMatches_38 : decode cX12_fillsMatches 38 = .ok (.invokevirtual 369, 3) := dec_2 oX12_fillsMatches (of182 _) 1 113 rfl rfl
theorem dX12_fillsMatches_41 : decode cX12_fillsMatches 41 = .ok (.ifCond .eq 24, 3) := dec_s2 oX12_fillsMatches (of153 _) 0 24 rfl (sg16p rfl) rfl
theorem dX12_fillsMatches_44 : decode cX12_fillsMatches 44 = .ok (.iload_n 2, 1) := dec_0 oX12_fillsMatches (of28 _) rfl
theorem dX12_fillsMatches_45 : decode cX12_fillsMatches 45 = .ok (.ifCond .lt 18, 3) := dec_s2 oX12_fillsMatches (of155 _) 0 18 rfl (sg16p rfl) rfl
theorem dX12_fillsMatches_48 : decode cX12_fillsMatches 48 = .ok (.aload_n 0, 1) := dec_0 oX12_fillsMatches (of42 _) rfl
theorem dX12_fillsMatches_49 : decode cX12_fillsMatches 49 = .ok (.getfield 91, 3) := dec_2 oX12_fillsMatches (of180 _) 0 91 rfl rfl
theorem dX12_fillsMatches_52 : decode cX12_fillsMatches 52 = .ok (.iload_n 3, 1) := dec_0 oX12_fillsMatches (of29 _) rfl
theorem dX12_fillsMatches_53 : decode cX12_fillsMatches 53 = .ok (.iaload, 1) := dec_0 oX12_fillsMatches (of46 _) rfl
theorem dX12_fillsMatches_54 : decode cX12_fillsMatches 54 = .ok (.aload_n 0, 1) := dec_0 oX12_fillsMatches (of42 _) rfl
theorem dX12_fillsMatches_55 : decode cX12_fillsMatches 55 = .ok (.getfield 91, 3) := dec_2 oX12_fillsMatches (of180 _) 0 91 rfl rfl
theorem dX12_fillsMatches_58 : decode cX12_fillsMatches 58 = .ok (.iload_n 2, 1) := dec_0 oX12_fillsMatches (of28 _) rfl
theorem dX12_fillsMatches_59 : decode cX12_fillsMatches 59 = .ok (.iaload, 1) := dec_0 oX12_fillsMatches (of46 _) rfl
theorem dX12_fillsMatches_60 : decode cX12_fillsMatches 60 = .ok (.if_icmp .ge 5, 3) := dec_s2 oX12_fillsMatches (of162 _) 0 5 rfl (sg16p rfl) rfl
theorem dX12_fillsMatches_63 : decode cX12_fillsMatches 63 = .ok (.iload_n 3, 1) := dec_0 oX12_fillsMatches (of29 _) rfl
theorem dX12_fillsMatches_64 : decode cX12_fillsMatches 64 = .ok (.istore_n 2, 1) := dec_0 oX12_fillsMatches (of61 _) rfl
theorem dX12_fillsMatches_65 : decode cX12_fillsMatches 65 = .ok (.iinc 3 1, 3) := dec_ii oX12_fillsMatches (of132 _) 3 1 rfl (sg8p rfl) rfl
theorem dX12_fillsMatches_68 : decode cX12_fillsMatches 68 = .ok (.goto (-48), 3) := dec_s2 oX12_fillsMatches (of167 _) 255 208 rfl (sg16n (k := 48) rfl) rfl
theorem dX12_fillsMatches_71 : decode cX12_fillsMatches 71 = .ok (.iload_n 2, 1) := dec_0 oX12_fillsMatches (of28 _) rfl
theorem dX12_fillsMatches_72 : decode cX12_fillsMatches 72 = .ok (.ifCond .ge 4, 3) := dec_s2 oX12_fillsMatches (of156 _) 0 4 rfl (sg16p rfl) rfl
theorem dX12_fillsMatches_75 : decode cX12_fillsMatches 75 = .ok (.return_, 1) := dec_0 oX12_fillsMatches (of177 _) rfl
theorem dX12_fillsMatches_76 : decode cX12_fillsMatches 76 = .ok (.aload_n 0, 1) := dec_0 oX12_fillsMatches (of42 _) rfl
theorem dX12_fillsMatches_77 : decode cX12_fillsMatches 77 = .ok (.getfield 97, 3) := dec_2 oX12_fillsMatches (of180 _) 0 97 rfl rfl
theorem dX12_fillsMatches_80 : decode cX12_fillsMatches 80 = .ok (.aload_n 0, 1) := dec_0 oX12_fillsMatches (of42 _) rfl
theorem dX12_fillsMatches_81 : decode cX12_fillsMatches 81 = .ok (.getfield 366, 3) := dec_2 oX12_fillsMatches (of180 _) 1 110 rfl rfl
theorem dX12_fillsMatches_84 : decode cX12_fillsMatches 84 = .ok (.iload_n 2, 1) := dec_0 oX12_fillsMatches (of28 _) rfl
theorem dX12_fillsMatches_85 : decode cX12_fillsMatches 85 = .ok (.iastore, 1) := dec_0 oX12_fillsMatches (of79 _) rfl
theorem dX12_fillsMatches_86 : decode cX12_fillsMatches 86 = .ok (.aload_n 0, 1) := dec_0 oX12_fillsMatches (of42 _) rfl
theorem dX12_fillsMatches_87 : decode cX12_fillsMatches 87 = .ok (.dup, 1) := dec_0 oX12_fillsMatches (of89 _) rfl
theorem dX12_fillsMatches_88 : decode cX12_fillsMatches 88 = .ok (.getfield 366, 3) := dec_2 oX12_fillsMatches (of180 _) 1 110 rfl rfl
theorem dX12_fillsMatches_91 : decode cX12_fillsMatches 91 = .ok (.iconst 1, 1) := dec_0 oX12_fillsMatches (of4 _) rfl
theorem dX12_fillsMatches_92 : decode cX12_fillsMatches 92 = .ok (.iadd, 1) := dec_0 oX12_fillsMatches (of96 _) rfl
theorem dX12_fillsMatches_93 : decode cX12_fillsMatches 93 = .ok (.putfield 366, 3) := dec_2 oX12_fillsMatches (of181 _) 1 110 rfl rfl
theorem dX12_fillsMatches_96 : decode cX12_fillsMatches 96 = .ok (.goto (-84), 3) := dec_s2 oX12_fillsMatches (of167 _) 255 172 rfl (sg16n (k := 84) rfl) rfl
theorem dX12_fillsMatches_99 : decode cX12_fillsMatches 99 = .ok (.return_, 1) := dec_0 oX12_fillsMatches (of177 _) rfl
theorem dX12_match_8 : decode cX12_match 8 = .ok (.iload_n 2, 1) := dec_0 oX12_match (of28 _) rfl
theorem dX12_match_9 : decode cX12_match 9 = .ok (.ifCond .lt 12, 3) := dec_s2 oX12_match (of155 _) 0 12 rfl (sg16p rfl) rfl
theorem dX12_match_12 : decode cX12_match 12 = .ok (.iload_n 3, 1) := dec_0 oX12_match (of29 _) rfl
theorem dX12_match_13 : decode cX12_match 13 = .ok (.iconst 0, 1) := dec_0 oX12_match (of3 _) rfl
theorem dX12_match_14 : decode cX12_match 14 = .ok (.iconst 1, 1) := dec_0 oX12_match (of4 _) rfl
theorem dX12_match_15 : decode cX12_match 15 = .ok (.invokestatic 244, 3) := dec_2 oX12_match (of184 _) 0 244 rfl rfl
theorem dX12_match_18 : decode cX12_match 18 = .ok (.ifCond .ne 5, 3) := dec_s2 oX12_match (of154 _) 0 5 rfl (sg16p rfl) rfl
theorem dX12_match_23 : decode cX12_match 23 = .ok (.aload_n 0, 1) := dec_0 oX12_match (of42 _) rfl
theorem dX12_match_24 : decode cX12_match 24 = .ok (.iload_n 1, 1) := dec_0 oX12_match (of27 _) rfl
theorem dX12_match_25 : decode cX12_match 25 = .ok (.invokevirtual 372, 3) := dec_2 oX12_match (of182 _) 1 116 rfl rfl
theorem dX12_match_28 : decode cX12_match 28 = .ok (.iload_n 2, 1) := dec_0 oX12_match (of28 _) rfl
theorem dX12_match_29 : decode cX12_match 29 = .ok (.aload_n 0, 1) := dec_0 oX12_match (of42 _) rfl
theorem dX12_match_30 : decode cX12_match 30 = .ok (.getfield 366, 3) := dec_2 oX12_match (of180 _) 1 110 rfl rfl
theorem dX12_match_33 : decode cX12_match 33 = .ok (.if_icmp .lt 6, 3) := dec_s2 oX12_match (of161 _) 0 6 rfl (sg16p rfl) rfl
theorem dX12_match_36 : decode cX12_match 36 = .ok (.bipush (-2), 2) := dec_s1 oX12_match (of16 _) 254 rfl (sg8n (k := 2) rfl) rfl
theorem dX12_match_38 : decode cX12_match 38 = .ok (.ireturn, 1) := dec_0 oX12_match (of172 _) rfl
theorem dX12_match_39 : decode cX12_match 39 = .ok (.iload_n 3, 1) := dec_0 oX12_match (of29 _) rfl
theorem dX12_match_40 : decode cX12_match 40 = .ok (.ifCond .ne 12, 3) := dec_s2 oX12_match (of154 _) 0 12 rfl (sg16p rfl) rfl
theorem dX12_match_43 : decode cX12_match 43 = .ok (.aload_n 0, 1) := dec_0 oX12_match (of42 _) rfl
theorem dX12_match_44 : decode cX12_match 44 = .ok (.getfield 97, 3) := dec_2 oX12_match (of180 _) 0 97 rfl rfl
theorem dX12_match_47 : decode cX12_match 47 = .ok (.iload_n 2, 1) := dec_0 oX12_match (of28 _) rfl
theorem dX12_match_48 : decode cX12_match 48 = .ok (.iaload, 1) := dec_0 oX12_match (of46 _) rfl
theorem dX12_match_49 : decode cX12_match 49 = .ok (.goto 14, 3) := dec_s2 oX12_match (of167 _) 0 14 rfl (sg16p rfl) rfl
theorem dX12_match_52 : decode cX12_match 52 = .ok (.aload_n 0, 1) := dec_0 oX12_match (of42 _) rfl
theorem dX12_match_53 : decode cX12_match 53 = .ok (.getfield 91, 3) := dec_2 oX12_match (of180 _) 0 91 rfl rfl
theorem dX12_match_56 : decode cX12_match 56 = .ok (.aload_n 0, 1) := dec_0 oX12_match (of42 _) rfl
theorem dX12_match_57 : decode cX12_match 57 = .ok (.getfield 97, 3) := dec_2 oX12_match (of180 _) 0 97 rfl rfl
theorem dX12_match_60 : decode cX12_match 60 = .ok (.iload_n 2, 1) := dec_0 oX12_match (of28 _) rfl
theorem dX12_match_61 : decode cX12_match 61 = .ok (.iaload, 1) := dec_0 oX12_match (of46 _) rfl
theorem dX12_match_62 : decode cX12_match 62 = .ok (.iaload, 1) := dec_0 oX12_match (of46 _) rfl
theorem dX12_match_63 : decode cX12_match 63 = .ok (.ireturn, 1) := dec_0 oX12_match (of172 _) rfl
theorem dX12_within_8 : decode cX12_within 8 = .ok (.iload_n 2, 1) := dec_0 oX12_within (of28 _) rfl
theorem dX12_within_9 : decode cX12_within 9 = .ok (.ifCond .ge 5, 3) := dec_s2 oX12_within (of156 _) 0 5 rfl (sg16p rfl) rfl
theorem dX12_within_14 : decode cX12_within 14 = .ok (.aload_n 0, 1) := dec_0 oX12_within (of42 _) rfl
theorem dX12_within_15 : decode cX12_within 15 = .ok (.iload_n 1, 1) := dec_0 oX12_within (of27 _) rfl
theorem dX12_within_16 : decode cX12_within 16 = .ok (.invokevirtual 372, 3) := dec_2 oX12_within (of182 _) 1 116 rfl rfl
theorem dX12_within_19 : decode cX12_within 19 = .ok (.iconst 0, 1) := dec_0 oX12_within (of3 _) rfl
theorem dX12_within_20 : decode cX12_within 20 = .ok (.istore_n 3, 1) := dec_0 oX12_within (of62 _) rfl
theorem dX12_within_21 : decode cX12_within 21 = .ok (.iconst 0, 1) := dec_0 oX12_within (of3 _) rfl
theorem dX12_within_22 : decode cX12_within 22 = .ok (.istore 4, 2) := dec_1 oX12_within (of54 _) 4 rfl rfl
theorem dX12_within_24 : decode cX12_within 24 = .ok (.iload 4, 2) := dec_1 oX12_within (of21 _) 4 rfl rfl
theorem dX12_within_26 : decode cX12_within 26 = .ok (.aload_n 0, 1) := dec_0 oX12_within (of42 _) rfl
theorem dX12_within_27 : decode cX12_within 27 = .ok (.getfield 366, 3) := dec_2 oX12_within (of180 _) 1 110 rfl rfl
theorem dX12_within_30 : decode cX12_within 30 = .ok (.if_icmp .ge 28, 3) := dec_s2 oX12_within (of162 _) 0 28 rfl (sg16p rfl) rfl
theorem dX12_within_33 : decode cX12_within 33 = .ok (.aload_n 0, 1) := dec_0 oX12_within (of42 _) rfl
theorem dX12_within_34 : decode cX12_within 34 = .ok (.getfield 91, 3) := dec_2 oX12_within (of180 _) 0 91 rfl rfl
theorem dX12_within_37 : decode cX12_within 37 = .ok (.aload_n 0, 1) := dec_0 oX12_within (of42 _) rfl
theorem dX12_within_38 : decode cX12_within 38 = .ok (.getfield 97, 3) := dec_2 oX12_within (of180 _) 0 97 rfl rfl
theorem dX12_within_41 : decode cX12_within 41 = .ok (.iload 4, 2) := dec_1 oX12_within (of21 _) 4 rfl rfl
theorem dX12_within_43 : decode cX12_within 43 = .ok (.iaload, 1) := dec_0 oX12_within (of46 _) rfl
theorem dX12_within_44 : decode cX12_within 44 = .ok (.iaload, 1) := dec_0 oX12_within (of46 _) rfl
theorem dX12_within_45 : decode cX12_within 45 = .ok (.iload_n 2, 1) := dec_0 oX12_within (of28 _) rfl
theorem dX12_within_46 : decode cX12_within 46 = .ok (.if_icmp .gt 6, 3) := dec_s2 oX12_within (of163 _) 0 6 rfl (sg16p rfl) rfl
theorem dX12_within_49 : decode cX12_within 49 = .ok (.iinc 3 1, 3) := dec_ii oX12_within (of132 _) 3 1 rfl (sg8p rfl) rfl
theorem dX12_within_52 : decode cX12_within 52 = .ok (.iinc 4 1, 3) := dec_ii oX12_within (of132 _) 4 1 rfl (sg8p rfl) rfl
theorem dX12_within_55 : decode cX12_within 55 = .ok (.goto (-31), 3) := dec_s2 oX12_within (of167 _) 255 225 rfl (sg16n (k := 31) rfl) rfl
theorem dX12_within_58 : decode cX12_within 58 = .ok (.iload_n 3, 1) := dec_0 oX12_within (of29 _) rfl
theorem dX12_within_59 : decode cX12_within 59 = .ok (.ireturn, 1) := dec_0 oX12_within (of172 _) rfl
theorem dX12_cover_8 : decode cX12_cover 8 = .ok (.iload_n 2, 1) := dec_0 oX12_cover (of28 _) rfl
theorem dX12_cover_9 : decode cX12_cover 9 = .ok (.ifCond .ge 5, 3) := dec_s2 oX12_cover (of156 _) 0 5 rfl (sg16p rfl) rfl
theorem dX12_cover_14 : decode cX12_cover 14 = .ok (.aload_n 0, 1) := dec_0 oX12_cover (of42 _) rfl
theorem dX12_cover_15 : decode cX12_cover 15 = .ok (.iload_n 1, 1) := dec_0 oX12_cover (of27 _) rfl
theorem dX12_cover_16 : decode cX12_cover 16 = .ok (.invokevirtual 372, 3) := dec_2 oX12_cover (of182 _) 1 116 rfl rfl
theorem dX12_cover_19 : decode cX12_cover 19 = .ok (.iconst 0, 1) := dec_0 oX12_cover (of3 _) rfl
theorem dX12_cover_20 : decode cX12_cover 20 = .ok (.istore_n 3, 1) := dec_0 oX12_cover (of62 _) rfl
theorem dX12_cover_21 : decode cX12_cover 21 = .ok (.iconst 0, 1) := dec_0 oX12_cover (of3 _) rfl
theorem dX12_cover_22 : decode cX12_cover 22 = .ok (.istore 4, 2) := dec_1 oX12_cover (of54 _) 4 rfl rfl
theorem dX12_cover_24 : decode cX12_cover 24 = .ok (.iload 4, 2) := dec_1 oX12_cover (of21 _) 4 rfl rfl
theorem dX12_cover_26 : decode cX12_cover 26 = .ok (.aload_n 0, 1) := dec_0 oX12_cover (of42 _) rfl
theorem dX12_cover_27 : decode cX12_cover 27 = .ok (.getfield 70, 3) := dec_2 oX12_cover (of180 _) 0 70 rfl rfl
theorem dX12_cover_30 : decode cX12_cover 30 = .ok (.iconst 0, 1) := dec_0 oX12_cover (of3 _) rfl
theorem dX12_cover_31 : decode cX12_cover 31 = .ok (.iaload, 1) := dec_0 oX12_cover (of46 _) rfl
theorem dX12_cover_32 : decode cX12_cover 32 = .ok (.if_icmp .ge 81, 3) := dec_s2 oX12_cover (of162 _) 0 81 rfl (sg16p rfl) rfl
theorem dX12_cover_35 : decode cX12_cover 35 = .ok (.iconst 0, 1) := dec_0 oX12_cover (of3 _) rfl
theorem dX12_cover_36 : decode cX12_cover 36 = .ok (.istore 5, 2) := dec_1 oX12_cover (of54 _) 5 rfl rfl
theorem dX12_cover_38 : decode cX12_cover 38 = .ok (.iconst 0, 1) := dec_0 oX12_cover (of3 _) rfl
theorem dX12_cover_39 : decode cX12_cover 39 = .ok (.istore 6, 2) := dec_1 oX12_cover (of54 _) 6 rfl rfl
theorem dX12_cover_41 : decode cX12_cover 41 = .ok (.iload 6, 2) := dec_1 oX12_cover (of21 _) 6 rfl rfl
theorem dX12_cover_43 : decode cX12_cover 43 = .ok (.aload_n 0, 1) := dec_0 oX12_cover (of42 _) rfl
theorem dX12_cover_44 : decode cX12_cover 44 = .ok (.getfield 366, 3) := dec_2 oX12_cover (of180 _) 1 110 rfl rfl
theorem dX12_cover_47 : decode cX12_cover 47 = .ok (.if_icmp .ge 52, 3) := dec_s2 oX12_cover (of162 _) 0 52 rfl (sg16p rfl) rfl
theorem dX12_cover_50 : decode cX12_cover 50 = .ok (.aload_n 0, 1) := dec_0 oX12_cover (of42 _) rfl
theorem dX12_cover_51 : decode cX12_cover 51 = .ok (.getfield 91, 3) := dec_2 oX12_cover (of180 _) 0 91 rfl rfl
theorem dX12_cover_54 : decode cX12_cover 54 = .ok (.aload_n 0, 1) := dec_0 oX12_cover (of42 _) rfl
theorem dX12_cover_55 : decode cX12_cover 55 = .ok (.getfield 97, 3) := dec_2 oX12_cover (of180 _) 0 97 rfl rfl
theorem dX12_cover_58 : decode cX12_cover 58 = .ok (.iload 6, 2) := dec_1 oX12_cover (of21 _) 6 rfl rfl
theorem dX12_cover_60 : decode cX12_cover 60 = .ok (.iaload, 1) := dec_0 oX12_cover (of46 _) rfl
theorem dX12_cover_61 : decode cX12_cover 61 = .ok (.iaload, 1) := dec_0 oX12_cover (of46 _) rfl
theorem dX12_cover_62 : decode cX12_cover 62 = .ok (.iload_n 2, 1) := dec_0 oX12_cover (of28 _) rfl
theorem dX12_cover_63 : decode cX12_cover 63 = .ok (.if_icmp .gt 30, 3) := dec_s2 oX12_cover (of163 _) 0 30 rfl (sg16p rfl) rfl
theorem dX12_cover_66 : decode cX12_cover 66 = .ok (.iload 4, 2) := dec_1 oX12_cover (of21 _) 4 rfl rfl
theorem dX12_cover_68 : decode cX12_cover 68 = .ok (.aload_n 0, 1) := dec_0 oX12_cover (of42 _) rfl
theorem dX12_cover_69 : decode cX12_cover 69 = .ok (.getfield 97, 3) := dec_2 oX12_cover (of180 _) 0 97 rfl rfl
theorem dX12_cover_72 : decode cX12_cover 72 = .ok (.iload 6, 2) := dec_1 oX12_cover (of21 _) 6 rfl rfl
theorem dX12_cover_74 : decode cX12_cover 74 = .ok (.iaload, 1) := dec_0 oX12_cover (of46 _) rfl
theorem dX12_cover_75 : decode cX12_cover 75 = .ok (.isub, 1) := dec_0 oX12_cover (of100 _) rfl
theorem dX12_cover_76 : decode cX12_cover 76 = .ok (.iconst 0, 1) := dec_0 oX12_cover (of3 _) rfl
theorem dX12_cover_77 : decode cX12_cover 77 = .ok (.aload_n 0, 1) := dec_0 oX12_cover (of42 _) rfl
theorem dX12_cover_78 : decode cX12_cover 78 = .ok (.iload_n 1, 1) := dec_0 oX12_cover (of27 _) rfl
theorem dX12_cover_79 : decode cX12_cover 79 = .ok (.invokevirtual 254, 3) := dec_2 oX12_cover (of182 _) 0 254 rfl rfl
theorem dX12_cover_82 : decode cX12_cover 82 = .ok (.iconst 1, 1) := dec_0 oX12_cover (of4 _) rfl
theorem dX12_cover_83 : decode cX12_cover 83 = .ok (.isub, 1) := dec_0 oX12_cover (of100 _) rfl
theorem dX12_cover_84 : decode cX12_cover 84 = .ok (.invokestatic 244, 3) := dec_2 oX12_cover (of184 _) 0 244 rfl rfl
theorem dX12_cover_87 : decode cX12_cover 87 = .ok (.ifCond .eq 6, 3) := dec_s2 oX12_cover (of153 _) 0 6 rfl (sg16p rfl) rfl
theorem dX12_cover_90 : decode cX12_cover 90 = .ok (.iconst 1, 1) := dec_0 oX12_cover (of4 _) rfl
theorem dX12_cover_91 : decode cX12_cover 91 = .ok (.istore 5, 2) := dec_1 oX12_cover (of54 _) 5 rfl rfl
theorem dX12_cover_93 : decode cX12_cover 93 = .ok (.iinc 6 1, 3) := dec_ii oX12_cover (of132 _) 6 1 rfl (sg8p rfl) rfl
theorem dX12_cover_96 : decode cX12_cover 96 = .ok (.goto (-55), 3) := dec_s2 oX12_cover (of167 _) 255 201 rfl (sg16n (k := 55) rfl) rfl
theorem dX12_cover_99 : decode cX12_cover 99 = .ok (.iload 5, 2) := dec_1 oX12_cover (of21 _) 5 rfl rfl
theorem dX12_cover_101 : decode cX12_cover 101 = .ok (.ifCond .eq 6, 3) := dec_s2 oX12_cover (of153 _) 0 6 rfl (sg16p rfl) rfl
theorem dX12_cover_104 : decode cX12_cover 104 = .ok (.iinc 3 1, 3) := dec_ii oX12_cover (of132 _) 3 1 rfl (sg8p rfl) rfl
theorem dX12_cover_107 : decode cX12_cover 107 = .ok (.iinc 4 1, 3) := dec_ii oX12_cover (of132 _) 4 1 rfl (sg8p rfl) rfl
theorem dX12_cover_110 : decode cX12_cover 110 = .ok (.goto (-86), 3) := dec_s2 oX12_cover (of167 _) 255 170 rfl (sg16n (k := 86) rfl) rfl
theorem dX12_cover_113 : decode cX12_cover 113 = .ok (.iload_n 3, 1) := dec_0 oX12_cover (of29 _) rfl
theorem dX12_cover_114 : decode cX12_cover 114 = .ok (.ireturn, 1) := dec_0 oX12_cover (of172 _) rfl
theorem dX12_rankOf_0 : decode cX12_rankOf 0 = .ok (.iconst 0, 1) := dec_0 oX12_rankOf (of3 _) rfl
theorem dX12_rankOf_1 : decode cX12_rankOf 1 = .ok (.istore_n 2, 1) := dec_0 oX12_rankOf (of61 _) rfl
theorem dX12_rankOf_2 : decode cX12_rankOf 2 = .ok (.iconst 0, 1) := dec_0 oX12_rankOf (of3 _) rfl
theorem dX12_rankOf_3 : decode cX12_rankOf 3 = .ok (.istore_n 3, 1) := dec_0 oX12_rankOf (of62 _) rfl
theorem dX12_rankOf_4 : decode cX12_rankOf 4 = .ok (.iload_n 3, 1) := dec_0 oX12_rankOf (of29 _) rfl
theorem dX12_rankOf_5 : decode cX12_rankOf 5 = .ok (.sipush 160, 3) := dec_s2 oX12_rankOf (of17 _) 0 160 rfl (sg16p rfl) rfl
theorem dX12_rankOf_8 : decode cX12_rankOf 8 = .ok (.if_icmp .ge 56, 3) := dec_s2 oX12_rankOf (of162 _) 0 56 rfl (sg16p rfl) rfl
theorem dX12_rankOf_11 : decode cX12_rankOf 11 = .ok (.aload_n 0, 1) := dec_0 oX12_rankOf (of42 _) rfl
theorem dX12_rankOf_12 : decode cX12_rankOf 12 = .ok (.getfield 91, 3) := dec_2 oX12_rankOf (of180 _) 0 91 rfl rfl
theorem dX12_rankOf_15 : decode cX12_rankOf 15 = .ok (.iload_n 3, 1) := dec_0 oX12_rankOf (of29 _) rfl
theorem dX12_rankOf_16 : decode cX12_rankOf 16 = .ok (.iaload, 1) := dec_0 oX12_rankOf (of46 _) rfl
theorem dX12_rankOf_17 : decode cX12_rankOf 17 = .ok (.ifCond .lt 41, 3) := dec_s2 oX12_rankOf (of155 _) 0 41 rfl (sg16p rfl) rfl
theorem dX12_rankOf_20 : decode cX12_rankOf 20 = .ok (.aload_n 0, 1) := dec_0 oX12_rankOf (of42 _) rfl
theorem dX12_rankOf_21 : decode cX12_rankOf 21 = .ok (.getfield 91, 3) := dec_2 oX12_rankOf (of180 _) 0 91 rfl rfl
theorem dX12_rankOf_24 : decode cX12_rankOf 24 = .ok (.iload_n 3, 1) := dec_0 oX12_rankOf (of29 _) rfl
theorem dX12_rankOf_25 : decode cX12_rankOf 25 = .ok (.iaload, 1) := dec_0 oX12_rankOf (of46 _) rfl
theorem dX12_rankOf_26 : decode cX12_rankOf 26 = .ok (.aload_n 0, 1) := dec_0 oX12_rankOf (of42 _) rfl
theorem dX12_rankOf_27 : decode cX12_rankOf 27 = .ok (.getfield 91, 3) := dec_2 oX12_rankOf (of180 _) 0 91 rfl rfl
theorem dX12_rankOf_30 : decode cX12_rankOf 30 = .ok (.iload_n 1, 1) := dec_0 oX12_rankOf (of27 _) rfl
theorem dX12_rankOf_31 : decode cX12_rankOf 31 = .ok (.iaload, 1) := dec_0 oX12_rankOf (of46 _) rfl
theorem dX12_rankOf_32 : decode cX12_rankOf 32 = .ok (.if_icmp .lt 23, 3) := dec_s2 oX12_rankOf (of161 _) 0 23 rfl (sg16p rfl) rfl
theorem dX12_rankOf_35 : decode cX12_rankOf 35 = .ok (.aload_n 0, 1) := dec_0 oX12_rankOf (of42 _) rfl
theorem dX12_rankOf_36 : decode cX12_rankOf 36 = .ok (.getfield 91, 3) := dec_2 oX12_rankOf (of180 _) 0 91 rfl rfl
theorem dX12_rankOf_39 : decode cX12_rankOf 39 = .ok (.iload_n 3, 1) := dec_0 oX12_rankOf (of29 _) rfl
theorem dX12_rankOf_40 : decode cX12_rankOf 40 = .ok (.iaload, 1) := dec_0 oX12_rankOf (of46 _) rfl
theorem dX12_rankOf_41 : decode cX12_rankOf 41 = .ok (.aload_n 0, 1) := dec_0 oX12_rankOf (of42 _) rfl
theorem dX12_rankOf_42 : decode cX12_rankOf 42 = .ok (.getfield 91, 3) := dec_2 oX12_rankOf (of180 _) 0 91 rfl rfl
theorem dX12_rankOf_45 : decode cX12_rankOf 45 = .ok (.iload_n 1, 1) := dec_0 oX12_rankOf (of27 _) rfl
theorem dX12_rankOf_46 : decode cX12_rankOf 46 = .ok (.iaload, 1) := dec_0 oX12_rankOf (of46 _) rfl
theorem dX12_rankOf_47 : decode cX12_rankOf 47 = .ok (.if_icmp .ne 11, 3) := dec_s2 oX12_rankOf (of160 _) 0 11 rfl (sg16p rfl) rfl
theorem dX12_rankOf_50 : decode cX12_rankOf 50 = .ok (.iload_n 3, 1) := dec_0 oX12_rankOf (of29 _) rfl
theorem dX12_rankOf_51 : decode cX12_rankOf 51 = .ok (.iload_n 1, 1) := dec_0 oX12_rankOf (of27 _) rfl
theorem dX12_rankOf_52 : decode cX12_rankOf 52 = .ok (.if_icmp .ge 6, 3) := dec_s2 oX12_rankOf (of162 _) 0 6 rfl (sg16p rfl) rfl
theorem dX12_rankOf_55 : decode cX12_rankOf 55 = .ok (.iinc 2 1, 3) := dec_ii oX12_rankOf (of132 _) 2 1 rfl (sg8p rfl) rfl
theorem dX12_rankOf_58 : decode cX12_rankOf 58 = .ok (.iinc 3 1, 3) := dec_ii oX12_rankOf (of132 _) 3 1 rfl (sg8p rfl) rfl
theorem dX12_rankOf_61 : decode cX12_rankOf 61 = .ok (.goto (-57), 3) := dec_s2 oX12_rankOf (of167 _) 255 199 rfl (sg16n (k := 57) rfl) rfl
theorem dX12_rankOf_64 : decode cX12_rankOf 64 = .ok (.iload_n 2, 1) := dec_0 oX12_rankOf (of28 _) rfl
theorem dX12_rankOf_65 : decode cX12_rankOf 65 = .ok (.ireturn, 1) := dec_0 oX12_rankOf (of172 _) rfl
theorem dX12_rank_11 : decode cX12_rank 11 = .ok (.aload_n 0, 1) := dec_0 oX12_rank (of42 _) rfl
theorem dX12_rank_12 : decode cX12_rank 12 = .ok (.iload_n 1, 1) := dec_0 oX12_rank (of27 _) rfl
theorem dX12_rank_13 : decode cX12_rank 13 = .ok (.invokevirtual 357, 3) := dec_2 oX12_rank (of182 _) 1 101 rfl rfl
theorem dX12_rank_16 : decode cX12_rank 16 = .ok (.aload_n 0, 1) := dec_0 oX12_rank (of42 _) rfl
theorem dX12_rank_17 : decode cX12_rank 17 = .ok (.iload_n 2, 1) := dec_0 oX12_rank (of28 _) rfl
theorem dX12_rank_18 : decode cX12_rank 18 = .ok (.invokevirtual 375, 3) := dec_2 oX12_rank (of182 _) 1 119 rfl rfl
theorem dX12_rank_21 : decode cX12_rank 21 = .ok (.ireturn, 1) := dec_0 oX12_rank (of172 _) rfl
theorem dX12_kth_8 : decode cX12_kth 8 = .ok (.iload_n 2, 1) := dec_0 oX12_kth (of28 _) rfl
theorem dX12_kth_9 : decode cX12_kth 9 = .ok (.ifCond .lt 12, 3) := dec_s2 oX12_kth (of155 _) 0 12 rfl (sg16p rfl) rfl
theorem dX12_kth_12 : decode cX12_kth 12 = .ok (.iload_n 3, 1) := dec_0 oX12_kth (of29 _) rfl
theorem dX12_kth_13 : decode cX12_kth 13 = .ok (.iconst 0, 1) := dec_0 oX12_kth (of3 _) rfl
theorem dX12_kth_14 : decode cX12_kth 14 = .ok (.iconst 1, 1) := dec_0 oX12_kth (of4 _) rfl
theorem dX12_kth_15 : decode cX12_kth 15 = .ok (.invokestatic 244, 3) := dec_2 oX12_kth (of184 _) 0 244 rfl rfl
theorem dX12_kth_18 : decode cX12_kth 18 = .ok (.ifCond .ne 5, 3) := dec_s2 oX12_kth (of154 _) 0 5 rfl (sg16p rfl) rfl
theorem dX12_kth_23 : decode cX12_kth 23 = .ok (.aload_n 0, 1) := dec_0 oX12_kth (of42 _) rfl
theorem dX12_kth_24 : decode cX12_kth 24 = .ok (.iload_n 1, 1) := dec_0 oX12_kth (of27 _) rfl
theorem dX12_kth_25 : decode cX12_kth 25 = .ok (.invokevirtual 357, 3) := dec_2 oX12_kth (of182 _) 1 101 rfl rfl
theorem dX12_kth_28 : decode cX12_kth 28 = .ok (.iconst 0, 1) := dec_0 oX12_kth (of3 _) rfl
theorem dX12_kth_29 : decode cX12_kth 29 = .ok (.istore 4, 2) := dec_1 oX12_kth (of54 _) 4 rfl rfl
theorem dX12_kth_31 : decode cX12_kth 31 = .ok (.iload 4, 2) := dec_1 oX12_kth (of21 _) 4 rfl rfl
theorem dX12_kth_33 : decode cX12_kth 33 = .ok (.sipush 160, 3) := dec_s2 oX12_kth (of17 _) 0 160 rfl (sg16p rfl) rfl
theorem dX12_kth_36 : decode cX12_kth 36 = .ok (.if_icmp .ge 46, 3) := dec_s2 oX12_kth (of162 _) 0 46 rfl (sg16p rfl) rfl
theorem dX12_kth_39 : decode cX12_kth 39 = .ok (.aload_n 0, 1) := dec_0 oX12_kth (of42 _) rfl
theorem dX12_kth_40 : decode cX12_kth 40 = .ok (.getfield 91, 3) := dec_2 oX12_kth (of180 _) 0 91 rfl rfl
theorem dX12_kth_43 : decode cX12_kth 43 = .ok (.iload 4, 2) := dec_1 oX12_kth (of21 _) 4 rfl rfl
theorem dX12_kth_45 : decode cX12_kth 45 = .ok (.iaload, 1) := dec_0 oX12_kth (of46 _) rfl
theorem dX12_kth_46 : decode cX12_kth 46 = .ok (.ifCond .lt 30, 3) := dec_s2 oX12_kth (of155 _) 0 30 rfl (sg16p rfl) rfl
theorem dX12_kth_49 : decode cX12_kth 49 = .ok (.aload_n 0, 1) := dec_0 oX12_kth (of42 _) rfl
theorem dX12_kth_50 : decode cX12_kth 50 = .ok (.iload 4, 2) := dec_1 oX12_kth (of21 _) 4 rfl rfl
theorem dX12_kth_52 : decode cX12_kth 52 = .ok (.invokevirtual 375, 3) := dec_2 oX12_kth (of182 _) 1 119 rfl rfl
theorem dX12_kth_55 : decode cX12_kth 55 = .ok (.iload_n 2, 1) := dec_0 oX12_kth (of28 _) rfl
theorem dX12_kth_56 : decode cX12_kth 56 = .ok (.if_icmp .ne 20, 3) := dec_s2 oX12_kth (of160 _) 0 20 rfl (sg16p rfl) rfl
theorem dX12_kth_59 : decode cX12_kth 59 = .ok (.iload_n 3, 1) := dec_0 oX12_kth (of29 _) rfl
theorem dX12_kth_60 : decode cX12_kth 60 = .ok (.ifCond .ne 8, 3) := dec_s2 oX12_kth (of154 _) 0 8 rfl (sg16p rfl) rfl
theorem dX12_kth_63 : decode cX12_kth 63 = .ok (.iload 4, 2) := dec_1 oX12_kth (of21 _) 4 rfl rfl
theorem dX12_kth_65 : decode cX12_kth 65 = .ok (.goto 10, 3) := dec_s2 oX12_kth (of167 _) 0 10 rfl (sg16p rfl) rfl
theorem dX12_kth_68 : decode cX12_kth 68 = .ok (.aload_n 0, 1) := dec_0 oX12_kth (of42 _) rfl
theorem dX12_kth_69 : decode cX12_kth 69 = .ok (.getfield 91, 3) := dec_2 oX12_kth (of180 _) 0 91 rfl rfl
theorem dX12_kth_72 : decode cX12_kth 72 = .ok (.iload 4, 2) := dec_1 oX12_kth (of21 _) 4 rfl rfl
theorem dX12_kth_74 : decode cX12_kth 74 = .ok (.iaload, 1) := dec_0 oX12_kth (of46 _) rfl
theorem dX12_kth_75 : decode cX12_kth 75 = .ok (.ireturn, 1) := dec_0 oX12_kth (of172 _) rfl
theorem dX12_kth_76 : decode cX12_kth 76 = .ok (.iinc 4 1, 3) := dec_ii oX12_kth (of132 _) 4 1 rfl (sg8p rfl) rfl
theorem dX12_kth_79 : decode cX12_kth 79 = .ok (.goto (-48), 3) := dec_s2 oX12_kth (of167 _) 255 208 rfl (sg16n (k := 48) rfl) rfl
theorem dX12_kth_82 : decode cX12_kth 82 = .ok (.bipush (-2), 2) := dec_s1 oX12_kth (of16 _) 254 rfl (sg8n (k := 2) rfl) rfl
theorem dX12_kth_84 : decode cX12_kth 84 = .ok (.ireturn, 1) := dec_0 oX12_kth (of172 _) rfl
theorem dX12_greater_0 : decode cX12_greater 0 = .ok (.iload_n 0, 1) := dec_0 oX12_greater (of26 _) rfl
theorem dX12_greater_1 : decode cX12_greater 1 = .ok (.iload_n 1, 1) := dec_0 oX12_greater (of27 _) rfl
theorem dX12_greater_2 : decode cX12_greater 2 = .ok (.if_icmp .le 7, 3) := dec_s2 oX12_greater (of164 _) 0 7 rfl (sg16p rfl) rfl
theorem dX12_greater_5 : decode cX12_greater 5 = .ok (.iload_n 0, 1) := dec_0 oX12_greater (of26 _) rfl
theorem dX12_greater_6 : decode cX12_greater 6 = .ok (.goto 4, 3) := dec_s2 oX12_greater (of167 _) 0 4 rfl (sg16p rfl) rfl
theorem dX12_greater_9 : decode cX12_greater 9 = .ok (.iload_n 1, 1) := dec_0 oX12_greater (of27 _) rfl
theorem dX12_greater_10 : decode cX12_greater 10 = .ok (.ireturn, 1) := dec_0 oX12_greater (of172 _) rfl
theorem dX12_slack_10 : decode cX12_slack 10 = .ok (.aload_n 0, 1) := dec_0 oX12_slack (of42 _) rfl
theorem dX12_slack_11 : decode cX12_slack 11 = .ok (.invokevirtual 323, 3) := dec_2 oX12_slack (of182 _) 1 67 rfl rfl
theorem dX12_slack_14 : decode cX12_slack 14 = .ok (.iconst 0, 1) := dec_0 oX12_slack (of3 _) rfl
theorem dX12_slack_15 : decode cX12_slack 15 = .ok (.istore_n 2, 1) := dec_0 oX12_slack (of61 _) rfl
theorem dX12_slack_16 : decode cX12_slack 16 = .ok (.iconst 0, 1) := dec_0 oX12_slack (of3 _) rfl
theorem dX12_slack_17 : decode cX12_slack 17 = .ok (.istore_n 3, 1) := dec_0 oX12_slack (of62 _) rfl
theorem dX12_slack_18 : decode cX12_slack 18 = .ok (.iload_n 3, 1) := dec_0 oX12_slack (of29 _) rfl
theorem dX12_slack_19 : decode cX12_slack 19 = .ok (.sipush 160, 3) := dec_s2 oX12_slack (of17 _) 0 160 rfl (sg16p rfl) rfl
theorem dX12_slack_22 : decode cX12_slack 22 = .ok (.if_icmp .ge 53, 3) := dec_s2 oX12_slack (of162 _) 0 53 rfl (sg16p rfl) rfl
theorem dX12_slack_25 : decode cX12_slack 25 = .ok (.aload_n 0, 1) := dec_0 oX12_slack (of42 _) rfl
theorem dX12_slack_26 : decode cX12_slack 26 = .ok (.iload_n 1, 1) := dec_0 oX12_slack (of27 _) rfl
theorem dX12_slack_27 : decode cX12_slack 27 = .ok (.iload_n 3, 1) := dec_0 oX12_slack (of29 _) rfl
theorem dX12_slack_28 : decode cX12_slack 28 = .ok (.invokevirtual 342, 3) := dec_2 oX12_slack (of182 _) 1 86 rfl rfl
theorem dX12_slack_31 : decode cX12_slack 31 = .ok (.ifCond .ne 6, 3) := dec_s2 oX12_slack (of154 _) 0 6 rfl (sg16p rfl) rfl
theorem dX12_slack_34 : decode cX12_slack 34 = .ok (.goto 35, 3) := dec_s2 oX12_slack (of167 _) 0 35 rfl (sg16p rfl) rfl
theorem dX12_slack_37 : decode cX12_slack 37 = .ok (.aload_n 0, 1) := dec_0 oX12_slack (of42 _) rfl
theorem dX12_slack_38 : decode cX12_slack 38 = .ok (.iload_n 1, 1) := dec_0 oX12_slack (of27 _) rfl
theorem dX12_slack_39 : decode cX12_slack 39 = .ok (.iload_n 3, 1) := dec_0 oX12_slack (of29 _) rfl
theorem dX12_slack_40 : decode cX12_slack 40 = .ok (.invokevirtual 345, 3) := dec_2 oX12_slack (of182 _) 1 89 rfl rfl
theorem dX12_slack_43 : decode cX12_slack 43 = .ok (.istore 4, 2) := dec_1 oX12_slack (of54 _) 4 rfl rfl
theorem dX12_slack_45 : decode cX12_slack 45 = .ok (.iload_n 2, 1) := dec_0 oX12_slack (of28 _) rfl
theorem dX12_slack_46 : decode cX12_slack 46 = .ok (.iload 4, 2) := dec_1 oX12_slack (of21 _) 4 rfl rfl
theorem dX12_slack_48 : decode cX12_slack 48 = .ok (.aload_n 0, 1) := dec_0 oX12_slack (of42 _) rfl
theorem dX12_slack_49 : decode cX12_slack 49 = .ok (.invokevirtual 314, 3) := dec_2 oX12_slack (of182 _) 1 58 rfl rfl
theorem dX12_slack_52 : decode cX12_slack 52 = .ok (.aload_n 0, 1) := dec_0 oX12_slack (of42 _) rfl
theorem dX12_slack_53 : decode cX12_slack 53 = .ok (.invokevirtual 308, 3) := dec_2 oX12_slack (of182 _) 1 52 rfl rfl
theorem dX12_slack_56 : decode cX12_slack 56 = .ok (.aload_n 0, 1) := dec_0 oX12_slack (of42 _) rfl
theorem dX12_slack_57 : decode cX12_slack 57 = .ok (.invokevirtual 317, 3) := dec_2 oX12_slack (of182 _) 1 61 rfl rfl
theorem dX12_slack_60 : decode cX12_slack 60 = .ok (.invokestatic 378, 3) := dec_2 oX12_slack (of184 _) 1 122 rfl rfl
theorem dX12_slack_63 : decode cX12_slack 63 = .ok (.invokestatic 378, 3) := dec_2 oX12_slack (of184 _) 1 122 rfl rfl
theorem dX12_slack_66 : decode cX12_slack 66 = .ok (.isub, 1) := dec_0 oX12_slack (of100 _) rfl
theorem dX12_slack_67 : decode cX12_slack 67 = .ok (.iadd, 1) := dec_0 oX12_slack (of96 _) rfl
theorem dX12_slack_68 : decode cX12_slack 68 = .ok (.istore_n 2, 1) := dec_0 oX12_slack (of61 _) rfl
theorem dX12_slack_69 : decode cX12_slack 69 = .ok (.iinc 3 1, 3) := dec_ii oX12_slack (of132 _) 3 1 rfl (sg8p rfl) rfl
end
section
theorem dX12_slack_72 : decode cX12_slack 72 = .ok (.goto (-54), 3) := dec_s2 oX12_slack (of167 _) 255 202 rfl (sg16n (k := 54) rfl) rfl
theorem dX12_slack_75 : decode cX12_slack 75 = .ok (.iload_n 2, 1) := dec_0 oX12_slack (of28 _) rfl
theorem dX12_slack_76 : decode cX12_slack 76 = .ok (.ireturn, 1) := dec_0 oX12_slack (of172 _) rfl
theorem dX12_turns_10 : decode cX12_turns 10 = .ok (.aload_n 0, 1) := dec_0 oX12_turns (of42 _) rfl
theorem dX12_turns_11 : decode cX12_turns 11 = .ok (.iload_n 1, 1) := dec_0 oX12_turns (of27 _) rfl
theorem dX12_turns_12 : decode cX12_turns 12 = .ok (.invokevirtual 357, 3) := dec_2 oX12_turns (of182 _) 1 101 rfl rfl
theorem dX12_turns_15 : decode cX12_turns 15 = .ok (.iconst (-1), 1) := dec_0 oX12_turns (of2 _) rfl
theorem dX12_turns_16 : decode cX12_turns 16 = .ok (.istore_n 2, 1) := dec_0 oX12_turns (of61 _) rfl
theorem dX12_turns_17 : decode cX12_turns 17 = .ok (.iconst 0, 1) := dec_0 oX12_turns (of3 _) rfl
theorem dX12_turns_18 : decode cX12_turns 18 = .ok (.istore_n 3, 1) := dec_0 oX12_turns (of62 _) rfl
theorem dX12_turns_19 : decode cX12_turns 19 = .ok (.iconst 0, 1) := dec_0 oX12_turns (of3 _) rfl
theorem dX12_turns_20 : decode cX12_turns 20 = .ok (.istore 4, 2) := dec_1 oX12_turns (of54 _) 4 rfl rfl
theorem dX12_turns_22 : decode cX12_turns 22 = .ok (.iconst 0, 1) := dec_0 oX12_turns (of3 _) rfl
theorem dX12_turns_23 : decode cX12_turns 23 = .ok (.istore 5, 2) := dec_1 oX12_turns (of54 _) 5 rfl rfl
theorem dX12_turns_25 : decode cX12_turns 25 = .ok (.iload 5, 2) := dec_1 oX12_turns (of21 _) 5 rfl rfl
theorem dX12_turns_27 : decode cX12_turns 27 = .ok (.sipush 160, 3) := dec_s2 oX12_turns (of17 _) 0 160 rfl (sg16p rfl) rfl
theorem dX12_turns_30 : decode cX12_turns 30 = .ok (.if_icmp .ge 71, 3) := dec_s2 oX12_turns (of162 _) 0 71 rfl (sg16p rfl) rfl
theorem dX12_turns_33 : decode cX12_turns 33 = .ok (.aload_n 0, 1) := dec_0 oX12_turns (of42 _) rfl
theorem dX12_turns_34 : decode cX12_turns 34 = .ok (.getfield 91, 3) := dec_2 oX12_turns (of180 _) 0 91 rfl rfl
theorem dX12_turns_37 : decode cX12_turns 37 = .ok (.iload 5, 2) := dec_1 oX12_turns (of21 _) 5 rfl rfl
theorem dX12_turns_39 : decode cX12_turns 39 = .ok (.iaload, 1) := dec_0 oX12_turns (of46 _) rfl
theorem dX12_turns_40 : decode cX12_turns 40 = .ok (.ifCond .ge 6, 3) := dec_s2 oX12_turns (of156 _) 0 6 rfl (sg16p rfl) rfl
theorem dX12_turns_43 : decode cX12_turns 43 = .ok (.goto 52, 3) := dec_s2 oX12_turns (of167 _) 0 52 rfl (sg16p rfl) rfl
theorem dX12_turns_46 : decode cX12_turns 46 = .ok (.iload_n 2, 1) := dec_0 oX12_turns (of28 _) rfl
theorem dX12_turns_47 : decode cX12_turns 47 = .ok (.ifCond .lt 16, 3) := dec_s2 oX12_turns (of155 _) 0 16 rfl (sg16p rfl) rfl
theorem dX12_turns_50 : decode cX12_turns 50 = .ok (.aload_n 0, 1) := dec_0 oX12_turns (of42 _) rfl
theorem dX12_turns_51 : decode cX12_turns 51 = .ok (.getfield 91, 3) := dec_2 oX12_turns (of180 _) 0 91 rfl rfl
theorem dX12_turns_54 : decode cX12_turns 54 = .ok (.iload 5, 2) := dec_1 oX12_turns (of21 _) 5 rfl rfl
theorem dX12_turns_56 : decode cX12_turns 56 = .ok (.iaload, 1) := dec_0 oX12_turns (of46 _) rfl
theorem dX12_turns_57 : decode cX12_turns 57 = .ok (.iload_n 2, 1) := dec_0 oX12_turns (of28 _) rfl
theorem dX12_turns_58 : decode cX12_turns 58 = .ok (.if_icmp .ge 5, 3) := dec_s2 oX12_turns (of162 _) 0 5 rfl (sg16p rfl) rfl
theorem dX12_turns_61 : decode cX12_turns 61 = .ok (.iconst 1, 1) := dec_0 oX12_turns (of4 _) rfl
theorem dX12_turns_62 : decode cX12_turns 62 = .ok (.istore_n 3, 1) := dec_0 oX12_turns (of62 _) rfl
theorem dX12_turns_63 : decode cX12_turns 63 = .ok (.iload_n 2, 1) := dec_0 oX12_turns (of28 _) rfl
theorem dX12_turns_64 : decode cX12_turns 64 = .ok (.ifCond .lt 23, 3) := dec_s2 oX12_turns (of155 _) 0 23 rfl (sg16p rfl) rfl
theorem dX12_turns_67 : decode cX12_turns 67 = .ok (.aload_n 0, 1) := dec_0 oX12_turns (of42 _) rfl
theorem dX12_turns_68 : decode cX12_turns 68 = .ok (.getfield 91, 3) := dec_2 oX12_turns (of180 _) 0 91 rfl rfl
theorem dX12_turns_71 : decode cX12_turns 71 = .ok (.iload 5, 2) := dec_1 oX12_turns (of21 _) 5 rfl rfl
theorem dX12_turns_73 : decode cX12_turns 73 = .ok (.iaload, 1) := dec_0 oX12_turns (of46 _) rfl
theorem dX12_turns_74 : decode cX12_turns 74 = .ok (.iload_n 2, 1) := dec_0 oX12_turns (of28 _) rfl
theorem dX12_turns_75 : decode cX12_turns 75 = .ok (.if_icmp .le 12, 3) := dec_s2 oX12_turns (of164 _) 0 12 rfl (sg16p rfl) rfl
theorem dX12_turns_78 : decode cX12_turns 78 = .ok (.iload_n 3, 1) := dec_0 oX12_turns (of29 _) rfl
theorem dX12_turns_79 : decode cX12_turns 79 = .ok (.ifCond .eq 6, 3) := dec_s2 oX12_turns (of153 _) 0 6 rfl (sg16p rfl) rfl
theorem dX12_turns_82 : decode cX12_turns 82 = .ok (.iinc 4 1, 3) := dec_ii oX12_turns (of132 _) 4 1 rfl (sg8p rfl) rfl
theorem dX12_turns_85 : decode cX12_turns 85 = .ok (.iconst 0, 1) := dec_0 oX12_turns (of3 _) rfl
theorem dX12_turns_86 : decode cX12_turns 86 = .ok (.istore_n 3, 1) := dec_0 oX12_turns (of62 _) rfl
theorem dX12_turns_87 : decode cX12_turns 87 = .ok (.aload_n 0, 1) := dec_0 oX12_turns (of42 _) rfl
theorem dX12_turns_88 : decode cX12_turns 88 = .ok (.getfield 91, 3) := dec_2 oX12_turns (of180 _) 0 91 rfl rfl
theorem dX12_turns_91 : decode cX12_turns 91 = .ok (.iload 5, 2) := dec_1 oX12_turns (of21 _) 5 rfl rfl
theorem dX12_turns_93 : decode cX12_turns 93 = .ok (.iaload, 1) := dec_0 oX12_turns (of46 _) rfl
theorem dX12_turns_94 : decode cX12_turns 94 = .ok (.istore_n 2, 1) := dec_0 oX12_turns (of61 _) rfl
theorem dX12_turns_95 : decode cX12_turns 95 = .ok (.iinc 5 1, 3) := dec_ii oX12_turns (of132 _) 5 1 rfl (sg8p rfl) rfl
theorem dX12_turns_98 : decode cX12_turns 98 = .ok (.goto (-73), 3) := dec_s2 oX12_turns (of167 _) 255 183 rfl (sg16n (k := 73) rfl) rfl
theorem dX12_turns_101 : decode cX12_turns 101 = .ok (.iload 4, 2) := dec_1 oX12_turns (of21 _) 4 rfl rfl
theorem dX12_turns_103 : decode cX12_turns 103 = .ok (.ireturn, 1) := dec_0 oX12_turns (of172 _) rfl
theorem dX12_fired_27 : decode cX12_fired 27 = .ok (.aload_n 0, 1) := dec_0 oX12_fired (of42 _) rfl
theorem dX12_fired_28 : decode cX12_fired 28 = .ok (.getfield 70, 3) := dec_2 oX12_fired (of180 _) 0 70 rfl rfl
theorem dX12_fired_31 : decode cX12_fired 31 = .ok (.iconst 0, 1) := dec_0 oX12_fired (of3 _) rfl
theorem dX12_fired_32 : decode cX12_fired 32 = .ok (.iaload, 1) := dec_0 oX12_fired (of46 _) rfl
theorem dX12_fired_33 : decode cX12_fired 33 = .ok (.aload_n 0, 1) := dec_0 oX12_fired (of42 _) rfl
theorem dX12_fired_34 : decode cX12_fired 34 = .ok (.iload_n 3, 1) := dec_0 oX12_fired (of29 _) rfl
theorem dX12_fired_35 : decode cX12_fired 35 = .ok (.invokevirtual 254, 3) := dec_2 oX12_fired (of182 _) 0 254 rfl rfl
theorem dX12_fired_38 : decode cX12_fired 38 = .ok (.isub, 1) := dec_0 oX12_fired (of100 _) rfl
theorem dX12_fired_39 : decode cX12_fired 39 = .ok (.istore 4, 2) := dec_1 oX12_fired (of54 _) 4 rfl rfl
theorem dX12_fired_41 : decode cX12_fired 41 = .ok (.aload_n 0, 1) := dec_0 oX12_fired (of42 _) rfl
theorem dX12_fired_42 : decode cX12_fired 42 = .ok (.iload_n 3, 1) := dec_0 oX12_fired (of29 _) rfl
theorem dX12_fired_43 : decode cX12_fired 43 = .ok (.iload 4, 2) := dec_1 oX12_fired (of21 _) 4 rfl rfl
theorem dX12_fired_45 : decode cX12_fired 45 = .ok (.invokevirtual 342, 3) := dec_2 oX12_fired (of182 _) 1 86 rfl rfl
theorem dX12_fired_48 : decode cX12_fired 48 = .ok (.ifCond .eq 20, 3) := dec_s2 oX12_fired (of153 _) 0 20 rfl (sg16p rfl) rfl
theorem dX12_fired_51 : decode cX12_fired 51 = .ok (.aload_n 0, 1) := dec_0 oX12_fired (of42 _) rfl
theorem dX12_fired_52 : decode cX12_fired 52 = .ok (.iload_n 3, 1) := dec_0 oX12_fired (of29 _) rfl
theorem dX12_fired_53 : decode cX12_fired 53 = .ok (.iload 4, 2) := dec_1 oX12_fired (of21 _) 4 rfl rfl
theorem dX12_fired_55 : decode cX12_fired 55 = .ok (.invokevirtual 345, 3) := dec_2 oX12_fired (of182 _) 1 89 rfl rfl
theorem dX12_fired_58 : decode cX12_fired 58 = .ok (.iload_n 1, 1) := dec_0 oX12_fired (of27 _) rfl
theorem dX12_fired_59 : decode cX12_fired 59 = .ok (.if_icmp .gt 9, 3) := dec_s2 oX12_fired (of163 _) 0 9 rfl (sg16p rfl) rfl
theorem dX12_fired_62 : decode cX12_fired 62 = .ok (.iload_n 2, 1) := dec_0 oX12_fired (of28 _) rfl
theorem dX12_fired_63 : decode cX12_fired 63 = .ok (.iconst 1, 1) := dec_0 oX12_fired (of4 _) rfl
theorem dX12_fired_64 : decode cX12_fired 64 = .ok (.iload_n 3, 1) := dec_0 oX12_fired (of29 _) rfl
theorem dX12_fired_65 : decode cX12_fired 65 = .ok (.ishl, 1) := dec_0 oX12_fired (of120 _) rfl
theorem dX12_fired_66 : decode cX12_fired 66 = .ok (.ior, 1) := dec_0 oX12_fired (of128 _) rfl
theorem dX12_fired_67 : decode cX12_fired 67 = .ok (.istore_n 2, 1) := dec_0 oX12_fired (of61 _) rfl
theorem dX12_fired_68 : decode cX12_fired 68 = .ok (.iinc 3 1, 3) := dec_ii oX12_fired (of132 _) 3 1 rfl (sg8p rfl) rfl
theorem dX12_fired_71 : decode cX12_fired 71 = .ok (.goto (-57), 3) := dec_s2 oX12_fired (of167 _) 255 199 rfl (sg16n (k := 57) rfl) rfl
theorem dX12_whose_21 : decode cX12_whose 21 = .ok (.aload_n 0, 1) := dec_0 oX12_whose (of42 _) rfl
theorem dX12_whose_22 : decode cX12_whose 22 = .ok (.invokevirtual 323, 3) := dec_2 oX12_whose (of182 _) 1 67 rfl rfl
theorem dX12_whose_25 : decode cX12_whose 25 = .ok (.bipush (-2), 2) := dec_s1 oX12_whose (of16 _) 254 rfl (sg8n (k := 2) rfl) rfl
theorem dX12_whose_27 : decode cX12_whose 27 = .ok (.istore_n 3, 1) := dec_0 oX12_whose (of62 _) rfl
theorem dX12_whose_28 : decode cX12_whose 28 = .ok (.iconst 0, 1) := dec_0 oX12_whose (of3 _) rfl
theorem dX12_whose_29 : decode cX12_whose 29 = .ok (.istore 4, 2) := dec_1 oX12_whose (of54 _) 4 rfl rfl
theorem dX12_whose_31 : decode cX12_whose 31 = .ok (.iconst 0, 1) := dec_0 oX12_whose (of3 _) rfl
theorem dX12_whose_32 : decode cX12_whose 32 = .ok (.istore 5, 2) := dec_1 oX12_whose (of54 _) 5 rfl rfl
theorem dX12_whose_34 : decode cX12_whose 34 = .ok (.iload 5, 2) := dec_1 oX12_whose (of21 _) 5 rfl rfl
theorem dX12_whose_36 : decode cX12_whose 36 = .ok (.aload_n 0, 1) := dec_0 oX12_whose (of42 _) rfl
theorem dX12_whose_37 : decode cX12_whose 37 = .ok (.getfield 49, 3) := dec_2 oX12_whose (of180 _) 0 49 rfl rfl
theorem dX12_whose_40 : decode cX12_whose 40 = .ok (.aload_n 0, 1) := dec_0 oX12_whose (of42 _) rfl
theorem dX12_whose_41 : decode cX12_whose 41 = .ok (.getfield 197, 3) := dec_2 oX12_whose (of180 _) 0 197 rfl rfl
theorem dX12_whose_44 : decode cX12_whose 44 = .ok (.iaload, 1) := dec_0 oX12_whose (of46 _) rfl
theorem dX12_whose_45 : decode cX12_whose 45 = .ok (.if_icmp .ge 52, 3) := dec_s2 oX12_whose (of162 _) 0 52 rfl (sg16p rfl) rfl
theorem dX12_whose_48 : decode cX12_whose 48 = .ok (.aload_n 0, 1) := dec_0 oX12_whose (of42 _) rfl
theorem dX12_whose_49 : decode cX12_whose 49 = .ok (.iload 5, 2) := dec_1 oX12_whose (of21 _) 5 rfl rfl
theorem dX12_whose_51 : decode cX12_whose 51 = .ok (.invokevirtual 254, 3) := dec_2 oX12_whose (of182 _) 0 254 rfl rfl
theorem dX12_whose_54 : decode cX12_whose 54 = .ok (.iload_n 2, 1) := dec_0 oX12_whose (of28 _) rfl
theorem dX12_whose_55 : decode cX12_whose 55 = .ok (.if_icmp .eq 6, 3) := dec_s2 oX12_whose (of159 _) 0 6 rfl (sg16p rfl) rfl
theorem dX12_whose_58 : decode cX12_whose 58 = .ok (.goto 33, 3) := dec_s2 oX12_whose (of167 _) 0 33 rfl (sg16p rfl) rfl
theorem dX12_whose_61 : decode cX12_whose 61 = .ok (.aload_n 0, 1) := dec_0 oX12_whose (of42 _) rfl
theorem dX12_whose_62 : decode cX12_whose 62 = .ok (.iload 5, 2) := dec_1 oX12_whose (of21 _) 5 rfl rfl
theorem dX12_whose_64 : decode cX12_whose 64 = .ok (.iload_n 1, 1) := dec_0 oX12_whose (of27 _) rfl
theorem dX12_whose_65 : decode cX12_whose 65 = .ok (.invokevirtual 345, 3) := dec_2 oX12_whose (of182 _) 1 89 rfl rfl
theorem dX12_whose_68 : decode cX12_whose 68 = .ok (.istore 6, 2) := dec_1 oX12_whose (of54 _) 6 rfl rfl
theorem dX12_whose_70 : decode cX12_whose 70 = .ok (.iload_n 3, 1) := dec_0 oX12_whose (of29 _) rfl
theorem dX12_whose_71 : decode cX12_whose 71 = .ok (.ifCond .lt 13, 3) := dec_s2 oX12_whose (of155 _) 0 13 rfl (sg16p rfl) rfl
theorem dX12_whose_74 : decode cX12_whose 74 = .ok (.iload 6, 2) := dec_1 oX12_whose (of21 _) 6 rfl rfl
theorem dX12_whose_76 : decode cX12_whose 76 = .ok (.iload 4, 2) := dec_1 oX12_whose (of21 _) 4 rfl rfl
theorem dX12_whose_78 : decode cX12_whose 78 = .ok (.if_icmp .lt 6, 3) := dec_s2 oX12_whose (of161 _) 0 6 rfl (sg16p rfl) rfl
theorem dX12_whose_81 : decode cX12_whose 81 = .ok (.goto 10, 3) := dec_s2 oX12_whose (of167 _) 0 10 rfl (sg16p rfl) rfl
theorem dX12_whose_84 : decode cX12_whose 84 = .ok (.iload 5, 2) := dec_1 oX12_whose (of21 _) 5 rfl rfl
theorem dX12_whose_86 : decode cX12_whose 86 = .ok (.istore_n 3, 1) := dec_0 oX12_whose (of62 _) rfl
theorem dX12_whose_87 : decode cX12_whose 87 = .ok (.iload 6, 2) := dec_1 oX12_whose (of21 _) 6 rfl rfl
theorem dX12_whose_89 : decode cX12_whose 89 = .ok (.istore 4, 2) := dec_1 oX12_whose (of54 _) 4 rfl rfl
theorem dX12_whose_91 : decode cX12_whose 91 = .ok (.iinc 5 1, 3) := dec_ii oX12_whose (of132 _) 5 1 rfl (sg8p rfl) rfl
theorem dX12_whose_94 : decode cX12_whose 94 = .ok (.goto (-60), 3) := dec_s2 oX12_whose (of167 _) 255 196 rfl (sg16n (k := 60) rfl) rfl
theorem dX12_whose_97 : decode cX12_whose 97 = .ok (.iload_n 3, 1) := dec_0 oX12_whose (of29 _) rfl
theorem dX12_whose_98 : decode cX12_whose 98 = .ok (.ireturn, 1) := dec_0 oX12_whose (of172 _) rfl
theorem dX12_nearOf_0 : decode cX12_nearOf 0 = .ok (.bipush (-2), 2) := dec_s1 oX12_nearOf (of16 _) 254 rfl (sg8n (k := 2) rfl) rfl
theorem dX12_nearOf_2 : decode cX12_nearOf 2 = .ok (.istore_n 3, 1) := dec_0 oX12_nearOf (of62 _) rfl
theorem dX12_nearOf_3 : decode cX12_nearOf 3 = .ok (.aload_n 0, 1) := dec_0 oX12_nearOf (of42 _) rfl
theorem dX12_nearOf_4 : decode cX12_nearOf 4 = .ok (.bipush (-2), 2) := dec_s1 oX12_nearOf (of16 _) 254 rfl (sg8n (k := 2) rfl) rfl
theorem dX12_nearOf_6 : decode cX12_nearOf 6 = .ok (.putfield 381, 3) := dec_2 oX12_nearOf (of181 _) 1 125 rfl rfl
theorem dX12_nearOf_9 : decode cX12_nearOf 9 = .ok (.iconst 0, 1) := dec_0 oX12_nearOf (of3 _) rfl
theorem dX12_nearOf_10 : decode cX12_nearOf 10 = .ok (.istore 4, 2) := dec_1 oX12_nearOf (of54 _) 4 rfl rfl
theorem dX12_nearOf_12 : decode cX12_nearOf 12 = .ok (.iload 4, 2) := dec_1 oX12_nearOf (of21 _) 4 rfl rfl
theorem dX12_nearOf_14 : decode cX12_nearOf 14 = .ok (.aload_n 0, 1) := dec_0 oX12_nearOf (of42 _) rfl
theorem dX12_nearOf_15 : decode cX12_nearOf 15 = .ok (.getfield 70, 3) := dec_2 oX12_nearOf (of180 _) 0 70 rfl rfl
theorem dX12_nearOf_18 : decode cX12_nearOf 18 = .ok (.iconst 0, 1) := dec_0 oX12_nearOf (of3 _) rfl
theorem dX12_nearOf_19 : decode cX12_nearOf 19 = .ok (.iaload, 1) := dec_0 oX12_nearOf (of46 _) rfl
theorem dX12_nearOf_20 : decode cX12_nearOf 20 = .ok (.if_icmp .ge 80, 3) := dec_s2 oX12_nearOf (of162 _) 0 80 rfl (sg16p rfl) rfl
theorem dX12_nearOf_23 : decode cX12_nearOf 23 = .ok (.iload 4, 2) := dec_1 oX12_nearOf (of21 _) 4 rfl rfl
theorem dX12_nearOf_25 : decode cX12_nearOf 25 = .ok (.iload_n 1, 1) := dec_0 oX12_nearOf (of27 _) rfl
theorem dX12_nearOf_26 : decode cX12_nearOf 26 = .ok (.isub, 1) := dec_0 oX12_nearOf (of100 _) rfl
theorem dX12_nearOf_27 : decode cX12_nearOf 27 = .ok (.iconst 1, 1) := dec_0 oX12_nearOf (of4 _) rfl
theorem dX12_nearOf_28 : decode cX12_nearOf 28 = .ok (.iload_n 2, 1) := dec_0 oX12_nearOf (of28 _) rfl
theorem dX12_nearOf_29 : decode cX12_nearOf 29 = .ok (.isub, 1) := dec_0 oX12_nearOf (of100 _) rfl
theorem dX12_nearOf_30 : decode cX12_nearOf 30 = .ok (.iload_n 2, 1) := dec_0 oX12_nearOf (of28 _) rfl
theorem dX12_nearOf_31 : decode cX12_nearOf 31 = .ok (.iconst 1, 1) := dec_0 oX12_nearOf (of4 _) rfl
theorem dX12_nearOf_32 : decode cX12_nearOf 32 = .ok (.isub, 1) := dec_0 oX12_nearOf (of100 _) rfl
theorem dX12_nearOf_33 : decode cX12_nearOf 33 = .ok (.invokestatic 244, 3) := dec_2 oX12_nearOf (of184 _) 0 244 rfl rfl
theorem dX12_nearOf_36 : decode cX12_nearOf 36 = .ok (.ifCond .ne 58, 3) := dec_s2 oX12_nearOf (of154 _) 0 58 rfl (sg16p rfl) rfl
theorem dX12_nearOf_39 : decode cX12_nearOf 39 = .ok (.aload_n 0, 1) := dec_0 oX12_nearOf (of42 _) rfl
theorem dX12_nearOf_40 : decode cX12_nearOf 40 = .ok (.iload 4, 2) := dec_1 oX12_nearOf (of21 _) 4 rfl rfl
theorem dX12_nearOf_42 : decode cX12_nearOf 42 = .ok (.iload_n 2, 1) := dec_0 oX12_nearOf (of28 _) rfl
theorem dX12_nearOf_43 : decode cX12_nearOf 43 = .ok (.invokevirtual 257, 3) := dec_2 oX12_nearOf (of182 _) 1 1 rfl rfl
theorem dX12_nearOf_46 : decode cX12_nearOf 46 = .ok (.ifCond .ne 6, 3) := dec_s2 oX12_nearOf (of154 _) 0 6 rfl (sg16p rfl) rfl
theorem dX12_nearOf_49 : decode cX12_nearOf 49 = .ok (.goto 45, 3) := dec_s2 oX12_nearOf (of167 _) 0 45 rfl (sg16p rfl) rfl
theorem dX12_nearOf_52 : decode cX12_nearOf 52 = .ok (.aload_n 0, 1) := dec_0 oX12_nearOf (of42 _) rfl
theorem dX12_nearOf_53 : decode cX12_nearOf 53 = .ok (.iload_n 1, 1) := dec_0 oX12_nearOf (of27 _) rfl
theorem dX12_nearOf_54 : decode cX12_nearOf 54 = .ok (.iload 4, 2) := dec_1 oX12_nearOf (of21 _) 4 rfl rfl
theorem dX12_nearOf_56 : decode cX12_nearOf 56 = .ok (.iload_n 2, 1) := dec_0 oX12_nearOf (of28 _) rfl
theorem dX12_nearOf_57 : decode cX12_nearOf 57 = .ok (.invokevirtual 384, 3) := dec_2 oX12_nearOf (of182 _) 1 128 rfl rfl
theorem dX12_nearOf_60 : decode cX12_nearOf 60 = .ok (.aload_n 0, 1) := dec_0 oX12_nearOf (of42 _) rfl
theorem dX12_nearOf_61 : decode cX12_nearOf 61 = .ok (.ldc_w 282, 3) := dec_2 oX12_nearOf (of19 _) 1 26 rfl rfl
theorem dX12_nearOf_64 : decode cX12_nearOf 64 = .ok (.invokevirtual 304, 3) := dec_2 oX12_nearOf (of182 _) 1 48 rfl rfl
theorem dX12_nearOf_67 : decode cX12_nearOf 67 = .ok (.istore 5, 2) := dec_1 oX12_nearOf (of54 _) 5 rfl rfl
theorem dX12_nearOf_69 : decode cX12_nearOf 69 = .ok (.iload_n 3, 1) := dec_0 oX12_nearOf (of29 _) rfl
theorem dX12_nearOf_70 : decode cX12_nearOf 70 = .ok (.ifCond .lt 15, 3) := dec_s2 oX12_nearOf (of155 _) 0 15 rfl (sg16p rfl) rfl
theorem dX12_nearOf_73 : decode cX12_nearOf 73 = .ok (.iload 5, 2) := dec_1 oX12_nearOf (of21 _) 5 rfl rfl
theorem dX12_nearOf_75 : decode cX12_nearOf 75 = .ok (.aload_n 0, 1) := dec_0 oX12_nearOf (of42 _) rfl
theorem dX12_nearOf_76 : decode cX12_nearOf 76 = .ok (.getfield 381, 3) := dec_2 oX12_nearOf (of180 _) 1 125 rfl rfl
theorem dX12_nearOf_79 : decode cX12_nearOf 79 = .ok (.if_icmp .lt 6, 3) := dec_s2 oX12_nearOf (of161 _) 0 6 rfl (sg16p rfl) rfl
theorem dX12_nearOf_82 : decode cX12_nearOf 82 = .ok (.goto 12, 3) := dec_s2 oX12_nearOf (of167 _) 0 12 rfl (sg16p rfl) rfl
theorem dX12_nearOf_85 : decode cX12_nearOf 85 = .ok (.iload 4, 2) := dec_1 oX12_nearOf (of21 _) 4 rfl rfl
theorem dX12_nearOf_87 : decode cX12_nearOf 87 = .ok (.istore_n 3, 1) := dec_0 oX12_nearOf (of62 _) rfl
theorem dX12_nearOf_88 : decode cX12_nearOf 88 = .ok (.aload_n 0, 1) := dec_0 oX12_nearOf (of42 _) rfl
theorem dX12_nearOf_89 : decode cX12_nearOf 89 = .ok (.iload 5, 2) := dec_1 oX12_nearOf (of21 _) 5 rfl rfl
theorem dX12_nearOf_91 : decode cX12_nearOf 91 = .ok (.putfield 381, 3) := dec_2 oX12_nearOf (of181 _) 1 125 rfl rfl
theorem dX12_nearOf_94 : decode cX12_nearOf 94 = .ok (.iinc 4 1, 3) := dec_ii oX12_nearOf (of132 _) 4 1 rfl (sg8p rfl) rfl
theorem dX12_nearOf_97 : decode cX12_nearOf 97 = .ok (.goto (-85), 3) := dec_s2 oX12_nearOf (of167 _) 255 171 rfl (sg16n (k := 85) rfl) rfl
theorem dX12_nearOf_100 : decode cX12_nearOf 100 = .ok (.iload_n 3, 1) := dec_0 oX12_nearOf (of29 _) rfl
theorem dX12_nearOf_101 : decode cX12_nearOf 101 = .ok (.ireturn, 1) := dec_0 oX12_nearOf (of172 _) rfl
theorem dX12_near_19 : decode cX12_near 19 = .ok (.iload_n 3, 1) := dec_0 oX12_near (of29 _) rfl
theorem dX12_near_20 : decode cX12_near 20 = .ok (.iconst 0, 1) := dec_0 oX12_near (of3 _) rfl
theorem dX12_near_21 : decode cX12_near 21 = .ok (.iconst 1, 1) := dec_0 oX12_near (of4 _) rfl
theorem dX12_near_22 : decode cX12_near 22 = .ok (.invokestatic 244, 3) := dec_2 oX12_near (of184 _) 0 244 rfl rfl
theorem dX12_near_25 : decode cX12_near 25 = .ok (.ifCond .ne 5, 3) := dec_s2 oX12_near (of154 _) 0 5 rfl (sg16p rfl) rfl
theorem dX12_near_30 : decode cX12_near 30 = .ok (.aload_n 0, 1) := dec_0 oX12_near (of42 _) rfl
theorem dX12_near_31 : decode cX12_near 31 = .ok (.invokevirtual 323, 3) := dec_2 oX12_near (of182 _) 1 67 rfl rfl
theorem dX12_near_34 : decode cX12_near 34 = .ok (.aload_n 0, 1) := dec_0 oX12_near (of42 _) rfl
theorem dX12_near_35 : decode cX12_near 35 = .ok (.iload_n 1, 1) := dec_0 oX12_near (of27 _) rfl
theorem dX12_near_36 : decode cX12_near 36 = .ok (.iload_n 2, 1) := dec_0 oX12_near (of28 _) rfl
theorem dX12_near_37 : decode cX12_near 37 = .ok (.invokevirtual 388, 3) := dec_2 oX12_near (of182 _) 1 132 rfl rfl
theorem dX12_near_40 : decode cX12_near 40 = .ok (.istore 4, 2) := dec_1 oX12_near (of54 _) 4 rfl rfl
theorem dX12_near_42 : decode cX12_near 42 = .ok (.iload_n 3, 1) := dec_0 oX12_near (of29 _) rfl
theorem dX12_near_43 : decode cX12_near 43 = .ok (.ifCond .ne 8, 3) := dec_s2 oX12_near (of154 _) 0 8 rfl (sg16p rfl) rfl
theorem dX12_near_46 : decode cX12_near 46 = .ok (.iload 4, 2) := dec_1 oX12_near (of21 _) 4 rfl rfl
theorem dX12_near_48 : decode cX12_near 48 = .ok (.goto 7, 3) := dec_s2 oX12_near (of167 _) 0 7 rfl (sg16p rfl) rfl
theorem dX12_near_51 : decode cX12_near 51 = .ok (.aload_n 0, 1) := dec_0 oX12_near (of42 _) rfl
theorem dX12_near_52 : decode cX12_near 52 = .ok (.getfield 381, 3) := dec_2 oX12_near (of180 _) 1 125 rfl rfl
theorem dX12_near_55 : decode cX12_near 55 = .ok (.ireturn, 1) := dec_0 oX12_near (of172 _) rfl
theorem dX12_pair_50 : decode cX12_pair 50 = .ok (.aload_n 0, 1) := dec_0 oX12_pair (of42 _) rfl
theorem dX12_pair_51 : decode cX12_pair 51 = .ok (.iload 6, 2) := dec_1 oX12_pair (of21 _) 6 rfl rfl
theorem dX12_pair_53 : decode cX12_pair 53 = .ok (.iload_n 1, 1) := dec_0 oX12_pair (of27 _) rfl
theorem dX12_pair_54 : decode cX12_pair 54 = .ok (.invokevirtual 257, 3) := dec_2 oX12_pair (of182 _) 1 1 rfl rfl
theorem dX12_pair_57 : decode cX12_pair 57 = .ok (.ifCond .ne 6, 3) := dec_s2 oX12_pair (of154 _) 0 6 rfl (sg16p rfl) rfl
theorem dX12_pair_60 : decode cX12_pair 60 = .ok (.goto 82, 3) := dec_s2 oX12_pair (of167 _) 0 82 rfl (sg16p rfl) rfl
theorem dX12_pair_63 : decode cX12_pair 63 = .ok (.iload 6, 2) := dec_1 oX12_pair (of21 _) 6 rfl rfl
theorem dX12_pair_65 : decode cX12_pair 65 = .ok (.iload_n 1, 1) := dec_0 oX12_pair (of27 _) rfl
theorem dX12_pair_66 : decode cX12_pair 66 = .ok (.iadd, 1) := dec_0 oX12_pair (of96 _) rfl
theorem dX12_pair_67 : decode cX12_pair 67 = .ok (.istore 7, 2) := dec_1 oX12_pair (of54 _) 7 rfl rfl
theorem dX12_pair_69 : decode cX12_pair 69 = .ok (.iload 7, 2) := dec_1 oX12_pair (of21 _) 7 rfl rfl
theorem dX12_pair_71 : decode cX12_pair 71 = .ok (.aload_n 0, 1) := dec_0 oX12_pair (of42 _) rfl
theorem dX12_pair_72 : decode cX12_pair 72 = .ok (.getfield 70, 3) := dec_2 oX12_pair (of180 _) 0 70 rfl rfl
theorem dX12_pair_75 : decode cX12_pair 75 = .ok (.iconst 0, 1) := dec_0 oX12_pair (of3 _) rfl
theorem dX12_pair_76 : decode cX12_pair 76 = .ok (.iaload, 1) := dec_0 oX12_pair (of46 _) rfl
theorem dX12_pair_77 : decode cX12_pair 77 = .ok (.if_icmp .ge 65, 3) := dec_s2 oX12_pair (of162 _) 0 65 rfl (sg16p rfl) rfl
theorem dX12_pair_80 : decode cX12_pair 80 = .ok (.aload_n 0, 1) := dec_0 oX12_pair (of42 _) rfl
theorem dX12_pair_81 : decode cX12_pair 81 = .ok (.iload 7, 2) := dec_1 oX12_pair (of21 _) 7 rfl rfl
theorem dX12_pair_83 : decode cX12_pair 83 = .ok (.iload_n 1, 1) := dec_0 oX12_pair (of27 _) rfl
theorem dX12_pair_84 : decode cX12_pair 84 = .ok (.invokevirtual 257, 3) := dec_2 oX12_pair (of182 _) 1 1 rfl rfl
theorem dX12_pair_87 : decode cX12_pair 87 = .ok (.ifCond .ne 6, 3) := dec_s2 oX12_pair (of154 _) 0 6 rfl (sg16p rfl) rfl
theorem dX12_pair_90 : decode cX12_pair 90 = .ok (.goto 46, 3) := dec_s2 oX12_pair (of167 _) 0 46 rfl (sg16p rfl) rfl
theorem dX12_pair_93 : decode cX12_pair 93 = .ok (.aload_n 0, 1) := dec_0 oX12_pair (of42 _) rfl
theorem dX12_pair_94 : decode cX12_pair 94 = .ok (.iload 6, 2) := dec_1 oX12_pair (of21 _) 6 rfl rfl
theorem dX12_pair_96 : decode cX12_pair 96 = .ok (.iload 7, 2) := dec_1 oX12_pair (of21 _) 7 rfl rfl
theorem dX12_pair_98 : decode cX12_pair 98 = .ok (.iload_n 1, 1) := dec_0 oX12_pair (of27 _) rfl
theorem dX12_pair_99 : decode cX12_pair 99 = .ok (.invokevirtual 384, 3) := dec_2 oX12_pair (of182 _) 1 128 rfl rfl
theorem dX12_pair_102 : decode cX12_pair 102 = .ok (.aload_n 0, 1) := dec_0 oX12_pair (of42 _) rfl
theorem dX12_pair_103 : decode cX12_pair 103 = .ok (.ldc_w 282, 3) := dec_2 oX12_pair (of19 _) 1 26 rfl rfl
theorem dX12_pair_106 : decode cX12_pair 106 = .ok (.invokevirtual 304, 3) := dec_2 oX12_pair (of182 _) 1 48 rfl rfl
theorem dX12_pair_109 : decode cX12_pair 109 = .ok (.istore 8, 2) := dec_1 oX12_pair (of54 _) 8 rfl rfl
theorem dX12_pair_111 : decode cX12_pair 111 = .ok (.iload_n 3, 1) := dec_0 oX12_pair (of29 _) rfl
theorem dX12_pair_112 : decode cX12_pair 112 = .ok (.ifCond .lt 13, 3) := dec_s2 oX12_pair (of155 _) 0 13 rfl (sg16p rfl) rfl
theorem dX12_pair_115 : decode cX12_pair 115 = .ok (.iload 8, 2) := dec_1 oX12_pair (of21 _) 8 rfl rfl
theorem dX12_pair_117 : decode cX12_pair 117 = .ok (.iload 5, 2) := dec_1 oX12_pair (of21 _) 5 rfl rfl
theorem dX12_pair_119 : decode cX12_pair 119 = .ok (.if_icmp .lt 6, 3) := dec_s2 oX12_pair (of161 _) 0 6 rfl (sg16p rfl) rfl
theorem dX12_pair_122 : decode cX12_pair 122 = .ok (.goto 14, 3) := dec_s2 oX12_pair (of167 _) 0 14 rfl (sg16p rfl) rfl
theorem dX12_pair_125 : decode cX12_pair 125 = .ok (.iload 6, 2) := dec_1 oX12_pair (of21 _) 6 rfl rfl
theorem dX12_pair_127 : decode cX12_pair 127 = .ok (.istore_n 3, 1) := dec_0 oX12_pair (of62 _) rfl
theorem dX12_pair_128 : decode cX12_pair 128 = .ok (.iload 7, 2) := dec_1 oX12_pair (of21 _) 7 rfl rfl
theorem dX12_pair_130 : decode cX12_pair 130 = .ok (.istore 4, 2) := dec_1 oX12_pair (of54 _) 4 rfl rfl
theorem dX12_pair_132 : decode cX12_pair 132 = .ok (.iload 8, 2) := dec_1 oX12_pair (of21 _) 8 rfl rfl
theorem dX12_pair_134 : decode cX12_pair 134 = .ok (.istore 5, 2) := dec_1 oX12_pair (of54 _) 5 rfl rfl
theorem dX12_pair_136 : decode cX12_pair 136 = .ok (.iinc 7 1, 3) := dec_ii oX12_pair (of132 _) 7 1 rfl (sg8p rfl) rfl
theorem dX12_pair_139 : decode cX12_pair 139 = .ok (.goto (-70), 3) := dec_s2 oX12_pair (of167 _) 255 186 rfl (sg16n (k := 70) rfl) rfl
theorem dX12_pair_142 : decode cX12_pair 142 = .ok (.iinc 6 1, 3) := dec_ii oX12_pair (of132 _) 6 1 rfl (sg8p rfl) rfl
theorem dX12_pair_145 : decode cX12_pair 145 = .ok (.goto (-106), 3) := dec_s2 oX12_pair (of167 _) 255 150 rfl (sg16n (k := 106) rfl) rfl
theorem dX12_odd_46 : decode cX12_odd 46 = .ok (.aload_n 0, 1) := dec_0 oX12_odd (of42 _) rfl
theorem dX12_odd_47 : decode cX12_odd 47 = .ok (.iload 5, 2) := dec_1 oX12_odd (of21 _) 5 rfl rfl
theorem dX12_odd_49 : decode cX12_odd 49 = .ok (.iload_n 1, 1) := dec_0 oX12_odd (of27 _) rfl
theorem dX12_odd_50 : decode cX12_odd 50 = .ok (.invokevirtual 257, 3) := dec_2 oX12_odd (of182 _) 1 1 rfl rfl
theorem dX12_odd_53 : decode cX12_odd 53 = .ok (.ifCond .eq 34, 3) := dec_s2 oX12_odd (of153 _) 0 34 rfl (sg16p rfl) rfl
theorem dX12_odd_56 : decode cX12_odd 56 = .ok (.aload_n 0, 1) := dec_0 oX12_odd (of42 _) rfl
theorem dX12_odd_57 : decode cX12_odd 57 = .ok (.iload 5, 2) := dec_1 oX12_odd (of21 _) 5 rfl rfl
theorem dX12_odd_59 : decode cX12_odd 59 = .ok (.iload_n 1, 1) := dec_0 oX12_odd (of27 _) rfl
theorem dX12_odd_60 : decode cX12_odd 60 = .ok (.invokevirtual 388, 3) := dec_2 oX12_odd (of182 _) 1 132 rfl rfl
theorem dX12_odd_63 : decode cX12_odd 63 = .ok (.ifCond .lt 24, 3) := dec_s2 oX12_odd (of155 _) 0 24 rfl (sg16p rfl) rfl
theorem dX12_odd_66 : decode cX12_odd 66 = .ok (.aload_n 0, 1) := dec_0 oX12_odd (of42 _) rfl
theorem dX12_odd_67 : decode cX12_odd 67 = .ok (.getfield 381, 3) := dec_2 oX12_odd (of180 _) 1 125 rfl rfl
theorem dX12_odd_70 : decode cX12_odd 70 = .ok (.iload 4, 2) := dec_1 oX12_odd (of21 _) 4 rfl rfl
theorem dX12_odd_72 : decode cX12_odd 72 = .ok (.if_icmp .gt 6, 3) := dec_s2 oX12_odd (of163 _) 0 6 rfl (sg16p rfl) rfl
theorem dX12_odd_75 : decode cX12_odd 75 = .ok (.goto 12, 3) := dec_s2 oX12_odd (of167 _) 0 12 rfl (sg16p rfl) rfl
theorem dX12_odd_78 : decode cX12_odd 78 = .ok (.iload 5, 2) := dec_1 oX12_odd (of21 _) 5 rfl rfl
theorem dX12_odd_80 : decode cX12_odd 80 = .ok (.istore_n 3, 1) := dec_0 oX12_odd (of62 _) rfl
theorem dX12_odd_81 : decode cX12_odd 81 = .ok (.aload_n 0, 1) := dec_0 oX12_odd (of42 _) rfl
theorem dX12_odd_82 : decode cX12_odd 82 = .ok (.getfield 381, 3) := dec_2 oX12_odd (of180 _) 1 125 rfl rfl
theorem dX12_odd_85 : decode cX12_odd 85 = .ok (.istore 4, 2) := dec_1 oX12_odd (of54 _) 4 rfl rfl
theorem dX12_odd_87 : decode cX12_odd 87 = .ok (.iinc 5 1, 3) := dec_ii oX12_odd (of132 _) 5 1 rfl (sg8p rfl) rfl
theorem dX12_odd_90 : decode cX12_odd 90 = .ok (.goto (-55), 3) := dec_s2 oX12_odd (of167 _) 255 201 rfl (sg16n (k := 55) rfl) rfl
theorem dX12_restore_20 : decode cX12_restore 20 = .ok (.iconst 0, 1) := dec_0 oX12_restore (of3 _) rfl
theorem dX12_restore_21 : decode cX12_restore 21 = .ok (.istore_n 2, 1) := dec_0 oX12_restore (of61 _) rfl
theorem dX12_restore_22 : decode cX12_restore 22 = .ok (.iload_n 2, 1) := dec_0 oX12_restore (of28 _) rfl
theorem dX12_restore_23 : decode cX12_restore 23 = .ok (.sipush 165, 3) := dec_s2 oX12_restore (of17 _) 0 165 rfl (sg16p rfl) rfl
theorem dX12_restore_26 : decode cX12_restore 26 = .ok (.if_icmp .ge 27, 3) := dec_s2 oX12_restore (of162 _) 0 27 rfl (sg16p rfl) rfl
theorem dX12_restore_29 : decode cX12_restore 29 = .ok (.aload_n 0, 1) := dec_0 oX12_restore (of42 _) rfl
theorem dX12_restore_30 : decode cX12_restore 30 = .ok (.getfield 70, 3) := dec_2 oX12_restore (of180 _) 0 70 rfl rfl
theorem dX12_restore_33 : decode cX12_restore 33 = .ok (.iload_n 2, 1) := dec_0 oX12_restore (of28 _) rfl
theorem dX12_restore_34 : decode cX12_restore 34 = .ok (.aload_n 0, 1) := dec_0 oX12_restore (of42 _) rfl
theorem dX12_restore_35 : decode cX12_restore 35 = .ok (.getfield 104, 3) := dec_2 oX12_restore (of180 _) 0 104 rfl rfl
theorem dX12_restore_38 : decode cX12_restore 38 = .ok (.sipush 165, 3) := dec_s2 oX12_restore (of17 _) 0 165 rfl (sg16p rfl) rfl
theorem dX12_restore_41 : decode cX12_restore 41 = .ok (.iload_n 1, 1) := dec_0 oX12_restore (of27 _) rfl
theorem dX12_restore_42 : decode cX12_restore 42 = .ok (.imul, 1) := dec_0 oX12_restore (of104 _) rfl
theorem dX12_restore_43 : decode cX12_restore 43 = .ok (.iload_n 2, 1) := dec_0 oX12_restore (of28 _) rfl
theorem dX12_restore_44 : decode cX12_restore 44 = .ok (.iadd, 1) := dec_0 oX12_restore (of96 _) rfl
theorem dX12_restore_45 : decode cX12_restore 45 = .ok (.iaload, 1) := dec_0 oX12_restore (of46 _) rfl
theorem dX12_restore_46 : decode cX12_restore 46 = .ok (.iastore, 1) := dec_0 oX12_restore (of79 _) rfl
theorem dX12_restore_47 : decode cX12_restore 47 = .ok (.iinc 2 1, 3) := dec_ii oX12_restore (of132 _) 2 1 rfl (sg8p rfl) rfl
theorem dX12_restore_50 : decode cX12_restore 50 = .ok (.goto (-28), 3) := dec_s2 oX12_restore (of167 _) 255 228 rfl (sg16n (k := 28) rfl) rfl
theorem dX12_restore_53 : decode cX12_restore 53 = .ok (.aload_n 0, 1) := dec_0 oX12_restore (of42 _) rfl
theorem dX12_restore_54 : decode cX12_restore 54 = .ok (.iconst 0, 1) := dec_0 oX12_restore (of3 _) rfl
theorem dX12_restore_55 : decode cX12_restore 55 = .ok (.putfield 209, 3) := dec_2 oX12_restore (of181 _) 0 209 rfl rfl
theorem dX12_restore_58 : decode cX12_restore 58 = .ok (.iconst 1, 1) := dec_0 oX12_restore (of4 _) rfl
theorem dX12_restore_59 : decode cX12_restore 59 = .ok (.ireturn, 1) := dec_0 oX12_restore (of172 _) rfl
theorem dX12_gaps_14 : decode cX12_gaps 14 = .ok (.aload_n 0, 1) := dec_0 oX12_gaps (of42 _) rfl
theorem dX12_gaps_15 : decode cX12_gaps 15 = .ok (.iload_n 2, 1) := dec_0 oX12_gaps (of28 _) rfl
theorem dX12_gaps_16 : decode cX12_gaps 16 = .ok (.invokevirtual 320, 3) := dec_2 oX12_gaps (of182 _) 1 64 rfl rfl
theorem dX12_gaps_19 : decode cX12_gaps 19 = .ok (.ifCond .ne 6, 3) := dec_s2 oX12_gaps (of154 _) 0 6 rfl (sg16p rfl) rfl
theorem dX12_gaps_22 : decode cX12_gaps 22 = .ok (.iinc 1 1, 3) := dec_ii oX12_gaps (of132 _) 1 1 rfl (sg8p rfl) rfl
theorem dX12_gaps_25 : decode cX12_gaps 25 = .ok (.iinc 2 1, 3) := dec_ii oX12_gaps (of132 _) 2 1 rfl (sg8p rfl) rfl
theorem dX12_gaps_28 : decode cX12_gaps 28 = .ok (.goto (-24), 3) := dec_s2 oX12_gaps (of167 _) 255 232 rfl (sg16n (k := 24) rfl) rfl
theorem dX12_count_151 : decode cX12_count 151 = .ok (.iinc 2 1, 3) := dec_ii oX12_count (of132 _) 2 1 rfl (sg8p rfl) rfl
theorem dX12_count_154 : decode cX12_count 154 = .ok (.goto (-20), 3) := dec_s2 oX12_count (of167 _) 255 236 rfl (sg16n (k := 20) rfl) rfl
theorem dX12_count_181 : decode cX12_count 181 = .ok (.aload_n 0, 1) := dec_0 oX12_count (of42 _) rfl
theorem dX12_count_182 : decode cX12_count 182 = .ok (.iload_n 3, 1) := dec_0 oX12_count (of29 _) rfl
theorem dX12_count_183 : decode cX12_count 183 = .ok (.invokevirtual 320, 3) := dec_2 oX12_count (of182 _) 1 64 rfl rfl
theorem dX12_count_186 : decode cX12_count 186 = .ok (.ifCond .eq 14, 3) := dec_s2 oX12_count (of153 _) 0 14 rfl (sg16p rfl) rfl
theorem dX12_count_189 : decode cX12_count 189 = .ok (.iload_n 2, 1) := dec_0 oX12_count (of28 _) rfl
theorem dX12_count_190 : decode cX12_count 190 = .ok (.aload_n 0, 1) := dec_0 oX12_count (of42 _) rfl
theorem dX12_count_191 : decode cX12_count 191 = .ok (.getfield 70, 3) := dec_2 oX12_count (of180 _) 0 70 rfl rfl
theorem dX12_count_194 : decode cX12_count 194 = .ok (.iconst 1, 1) := dec_0 oX12_count (of4 _) rfl
theorem dX12_count_195 : decode cX12_count 195 = .ok (.iload_n 3, 1) := dec_0 oX12_count (of29 _) rfl
theorem dX12_count_196 : decode cX12_count 196 = .ok (.iadd, 1) := dec_0 oX12_count (of96 _) rfl
theorem dX12_count_197 : decode cX12_count 197 = .ok (.iaload, 1) := dec_0 oX12_count (of46 _) rfl
theorem dX12_count_198 : decode cX12_count 198 = .ok (.iadd, 1) := dec_0 oX12_count (of96 _) rfl
theorem dX12_count_199 : decode cX12_count 199 = .ok (.istore_n 2, 1) := dec_0 oX12_count (of61 _) rfl
theorem dX12_count_200 : decode cX12_count 200 = .ok (.iinc 3 1, 3) := dec_ii oX12_count (of132 _) 3 1 rfl (sg8p rfl) rfl
theorem dX12_count_203 : decode cX12_count 203 = .ok (.goto (-32), 3) := dec_s2 oX12_count (of167 _) 255 224 rfl (sg16n (k := 32) rfl) rfl
theorem dX12_count_217 : decode cX12_count 217 = .ok (.iconst 1, 1) := dec_0 oX12_count (of4 _) rfl
theorem dX12_count_218 : decode cX12_count 218 = .ok (.goto 4, 3) := dec_s2 oX12_count (of167 _) 0 4 rfl (sg16p rfl) rfl
theorem dX12_count_231 : decode cX12_count 231 = .ok (.iconst 1, 1) := dec_0 oX12_count (of4 _) rfl
theorem dX12_count_232 : decode cX12_count 232 = .ok (.goto 4, 3) := dec_s2 oX12_count (of167 _) 0 4 rfl (sg16p rfl) rfl
theorem dX12_count_246 : decode cX12_count 246 = .ok (.iconst 1, 1) := dec_0 oX12_count (of4 _) rfl
theorem dX12_count_247 : decode cX12_count 247 = .ok (.goto 4, 3) := dec_s2 oX12_count (of167 _) 0 4 rfl (sg16p rfl) rfl
theorem dX12_count_269 : decode cX12_count 269 = .ok (.aload_n 0, 1) := dec_0 oX12_count (of42 _) rfl
theorem dX12_count_270 : decode cX12_count 270 = .ok (.iload_n 3, 1) := dec_0 oX12_count (of29 _) rfl
theorem dX12_count_271 : decode cX12_count 271 = .ok (.invokevirtual 320, 3) := dec_2 oX12_count (of182 _) 1 64 rfl rfl
theorem dX12_count_274 : decode cX12_count 274 = .ok (.ifCond .eq 24, 3) := dec_s2 oX12_count (of153 _) 0 24 rfl (sg16p rfl) rfl
theorem dX12_count_277 : decode cX12_count 277 = .ok (.aload_n 0, 1) := dec_0 oX12_count (of42 _) rfl
theorem dX12_count_278 : decode cX12_count 278 = .ok (.getfield 70, 3) := dec_2 oX12_count (of180 _) 0 70 rfl rfl
theorem dX12_count_281 : decode cX12_count 281 = .ok (.iconst 1, 1) := dec_0 oX12_count (of4 _) rfl
theorem dX12_count_282 : decode cX12_count 282 = .ok (.iload_n 3, 1) := dec_0 oX12_count (of29 _) rfl
theorem dX12_count_283 : decode cX12_count 283 = .ok (.iadd, 1) := dec_0 oX12_count (of96 _) rfl
theorem dX12_count_284 : decode cX12_count 284 = .ok (.iaload, 1) := dec_0 oX12_count (of46 _) rfl
theorem dX12_count_285 : decode cX12_count 285 = .ok (.iload_n 2, 1) := dec_0 oX12_count (of28 _) rfl
theorem dX12_count_286 : decode cX12_count 286 = .ok (.if_icmp .le 12, 3) := dec_s2 oX12_count (of164 _) 0 12 rfl (sg16p rfl) rfl
theorem dX12_count_289 : decode cX12_count 289 = .ok (.aload_n 0, 1) := dec_0 oX12_count (of42 _) rfl
theorem dX12_count_290 : decode cX12_count 290 = .ok (.getfield 70, 3) := dec_2 oX12_count (of180 _) 0 70 rfl rfl
theorem dX12_count_293 : decode cX12_count 293 = .ok (.iconst 1, 1) := dec_0 oX12_count (of4 _) rfl
theorem dX12_count_294 : decode cX12_count 294 = .ok (.iload_n 3, 1) := dec_0 oX12_count (of29 _) rfl
theorem dX12_count_295 : decode cX12_count 295 = .ok (.iadd, 1) := dec_0 oX12_count (of96 _) rfl
theorem dX12_count_296 : decode cX12_count 296 = .ok (.iaload, 1) := dec_0 oX12_count (of46 _) rfl
theorem dX12_count_297 : decode cX12_count 297 = .ok (.istore_n 2, 1) := dec_0 oX12_count (of61 _) rfl
theorem dX12_count_298 : decode cX12_count 298 = .ok (.iinc 3 1, 3) := dec_ii oX12_count (of132 _) 3 1 rfl (sg8p rfl) rfl
theorem dX12_count_301 : decode cX12_count 301 = .ok (.goto (-42), 3) := dec_s2 oX12_count (of167 _) 255 214 rfl (sg16n (k := 42) rfl) rfl
theorem dX12_count_321 : decode cX12_count 321 = .ok (.aload_n 0, 1) := dec_0 oX12_count (of42 _) rfl
theorem dX12_count_322 : decode cX12_count 322 = .ok (.getfield 70, 3) := dec_2 oX12_count (of180 _) 0 70 rfl rfl
theorem dX12_count_325 : decode cX12_count 325 = .ok (.iconst 1, 1) := dec_0 oX12_count (of4 _) rfl
theorem dX12_count_326 : decode cX12_count 326 = .ok (.iload_n 3, 1) := dec_0 oX12_count (of29 _) rfl
theorem dX12_count_327 : decode cX12_count 327 = .ok (.iadd, 1) := dec_0 oX12_count (of96 _) rfl
theorem dX12_count_328 : decode cX12_count 328 = .ok (.iaload, 1) := dec_0 oX12_count (of46 _) rfl
theorem dX12_count_329 : decode cX12_count 329 = .ok (.iload_n 2, 1) := dec_0 oX12_count (of28 _) rfl
theorem dX12_count_330 : decode cX12_count 330 = .ok (.if_icmp .ge 12, 3) := dec_s2 oX12_count (of162 _) 0 12 rfl (sg16p rfl) rfl
theorem dX12_count_333 : decode cX12_count 333 = .ok (.aload_n 0, 1) := dec_0 oX12_count (of42 _) rfl
theorem dX12_count_334 : decode cX12_count 334 = .ok (.getfield 70, 3) := dec_2 oX12_count (of180 _) 0 70 rfl rfl
theorem dX12_count_337 : decode cX12_count 337 = .ok (.iconst 1, 1) := dec_0 oX12_count (of4 _) rfl
theorem dX12_count_338 : decode cX12_count 338 = .ok (.iload_n 3, 1) := dec_0 oX12_count (of29 _) rfl
theorem dX12_count_339 : decode cX12_count 339 = .ok (.iadd, 1) := dec_0 oX12_count (of96 _) rfl
theorem dX12_count_340 : decode cX12_count 340 = .ok (.iaload, 1) := dec_0 oX12_count (of46 _) rfl
theorem dX12_count_341 : decode cX12_count 341 = .ok (.istore_n 2, 1) := dec_0 oX12_count (of61 _) rfl
theorem dX12_count_342 : decode cX12_count 342 = .ok (.iinc 3 1, 3) := dec_ii oX12_count (of132 _) 3 1 rfl (sg8p rfl) rfl
theorem dX12_count_345 : decode cX12_count 345 = .ok (.goto (-34), 3) := dec_s2 oX12_count (of167 _) 255 222 rfl (sg16n (k := 34) rfl) rfl
theorem dX12_count_360 : decode cX12_count 360 = .ok (.iload_n 2, 1) := dec_0 oX12_count (of28 _) rfl
theorem dX12_count_370 : decode cX12_count 370 = .ok (.iinc 2 1, 3) := dec_ii oX12_count (of132 _) 2 1 rfl (sg8p rfl) rfl
theorem dX12_count_373 : decode cX12_count 373 = .ok (.goto (-11), 3) := dec_s2 oX12_count (of167 _) 255 245 rfl (sg16n (k := 11) rfl) rfl
theorem dJ9_floorDiv_7cf53_0 : decode cJ9_floorDiv_7cf53 0 = .ok (.iload_n 0, 1) := dec_0 oJ9_floorDiv_7cf53 (of26 _) rfl
theorem dJ9_floorDiv_7cf53_1 : decode cJ9_floorDiv_7cf53 1 = .ok (.iload_n 1, 1) := dec_0 oJ9_floorDiv_7cf53 (of27 _) rfl
theorem dJ9_floorDiv_7cf53_2 : decode cJ9_floorDiv_7cf53 2 = .ok (.idiv, 1) := dec_0 oJ9_floorDiv_7cf53 (of108 _) rfl
theorem dJ9_floorDiv_7cf53_3 : decode cJ9_floorDiv_7cf53 3 = .ok (.istore_n 2, 1) := dec_0 oJ9_floorDiv_7cf53 (of61 _) rfl
theorem dJ9_floorDiv_7cf53_4 : decode cJ9_floorDiv_7cf53 4 = .ok (.iload_n 0, 1) := dec_0 oJ9_floorDiv_7cf53 (of26 _) rfl
theorem dJ9_floorDiv_7cf53_5 : decode cJ9_floorDiv_7cf53 5 = .ok (.iload_n 1, 1) := dec_0 oJ9_floorDiv_7cf53 (of27 _) rfl
theorem dJ9_floorDiv_7cf53_6 : decode cJ9_floorDiv_7cf53 6 = .ok (.ixor, 1) := dec_0 oJ9_floorDiv_7cf53 (of130 _) rfl
theorem dJ9_floorDiv_7cf53_7 : decode cJ9_floorDiv_7cf53 7 = .ok (.ifCond .ge 14, 3) := dec_s2 oJ9_floorDiv_7cf53 (of156 _) 0 14 rfl (sg16p rfl) rfl
theorem dJ9_floorDiv_7cf53_10 : decode cJ9_floorDiv_7cf53 10 = .ok (.iload_n 2, 1) := dec_0 oJ9_floorDiv_7cf53 (of28 _) rfl
theorem dJ9_floorDiv_7cf53_11 : decode cJ9_floorDiv_7cf53 11 = .ok (.iload_n 1, 1) := dec_0 oJ9_floorDiv_7cf53 (of27 _) rfl
theorem dJ9_floorDiv_7cf53_12 : decode cJ9_floorDiv_7cf53 12 = .ok (.imul, 1) := dec_0 oJ9_floorDiv_7cf53 (of104 _) rfl
theorem dJ9_floorDiv_7cf53_13 : decode cJ9_floorDiv_7cf53 13 = .ok (.iload_n 0, 1) := dec_0 oJ9_floorDiv_7cf53 (of26 _) rfl
theorem dJ9_floorDiv_7cf53_14 : decode cJ9_floorDiv_7cf53 14 = .ok (.if_icmp .eq 7, 3) := dec_s2 oJ9_floorDiv_7cf53 (of159 _) 0 7 rfl (sg16p rfl) rfl
theorem dJ9_floorDiv_7cf53_17 : decode cJ9_floorDiv_7cf53 17 = .ok (.iload_n 2, 1) := dec_0 oJ9_floorDiv_7cf53 (of28 _) rfl
theorem dJ9_floorDiv_7cf53_18 : decode cJ9_floorDiv_7cf53 18 = .ok (.iconst 1, 1) := dec_0 oJ9_floorDiv_7cf53 (of4 _) rfl
theorem dJ9_floorDiv_7cf53_19 : decode cJ9_floorDiv_7cf53 19 = .ok (.isub, 1) := dec_0 oJ9_floorDiv_7cf53 (of100 _) rfl
theorem dJ9_floorDiv_7cf53_20 : decode cJ9_floorDiv_7cf53 20 = .ok (.ireturn, 1) := dec_0 oJ9_floorDiv_7cf53 (of172 _) rfl
theorem dJ9_floorDiv_7cf53_21 : decode cJ9_floorDiv_7cf53 21 = .ok (.iload_n 2, 1) := dec_0 oJ9_floorDiv_7cf53 (of28 _) rfl
theorem dJ9_floorDiv_7cf53_22 : decode cJ9_floorDiv_7cf53 22 = .ok (.ireturn, 1) := dec_0 oJ9_floorDiv_7cf53 (of172 _) rfl
end
