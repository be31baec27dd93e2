theorem dX10_isWord_58 : decode cX10_isWord 58 = .ok (.ireturn, 1) := dec_0 oX10_isWord (of172 _) rfl
theorem dX10_isSameAsAt_0 : decode cX10_isSameAsAt 0 = .ok (.iload_n 2, 1) := dec_0 oX10_isSameAsAt (of28 _) rfl
theorem dX10_isSameAsAt_1 : decode cX10_isSameAsAt 1 = .ok (.aload_n 0, 1) := dec_0 oX10_isSameAsAt (of42 _) rfl
theorem dX10_isSameAsAt_2 : decode cX10_isSameAsAt 2 = .ok (.invokevirtual 57, 3) := dec_2 oX10_isSameAsAt (of182 _) 0 57 rfl rfl
theorem dX10_isSameAsAt_5 : decode cX10_isSameAsAt 5 = .ok (.if_icmp .eq 5, 3) := dec_s2 oX10_isSameAsAt (of159 _) 0 5 rfl (sg16p rfl) rfl
theorem dX10_isSameAsAt_8 : decode cX10_isSameAsAt 8 = .ok (.iconst 0, 1) := dec_0 oX10_isSameAsAt (of3 _) rfl
theorem dX10_isSameAsAt_9 : decode cX10_isSameAsAt 9 = .ok (.ireturn, 1) := dec_0 oX10_isSameAsAt (of172 _) rfl
theorem dX10_isSameAsAt_10 : decode cX10_isSameAsAt 10 = .ok (.iconst 0, 1) := dec_0 oX10_isSameAsAt (of3 _) rfl
theorem dX10_isSameAsAt_11 : decode cX10_isSameAsAt 11 = .ok (.istore_n 3, 1) := dec_0 oX10_isSameAsAt (of62 _) rfl
theorem dX10_isSameAsAt_12 : decode cX10_isSameAsAt 12 = .ok (.iload_n 3, 1) := dec_0 oX10_isSameAsAt (of29 _) rfl
theorem dX10_isSameAsAt_13 : decode cX10_isSameAsAt 13 = .ok (.iload_n 2, 1) := dec_0 oX10_isSameAsAt (of28 _) rfl
theorem dX10_isSameAsAt_14 : decode cX10_isSameAsAt 14 = .ok (.if_icmp .ge 31, 3) := dec_s2 oX10_isSameAsAt (of162 _) 0 31 rfl (sg16p rfl) rfl
theorem dX10_isSameAsAt_17 : decode cX10_isSameAsAt 17 = .ok (.aload_n 0, 1) := dec_0 oX10_isSameAsAt (of42 _) rfl
theorem dX10_isSameAsAt_18 : decode cX10_isSameAsAt 18 = .ok (.aload_n 0, 1) := dec_0 oX10_isSameAsAt (of42 _) rfl
theorem dX10_isSameAsAt_19 : decode cX10_isSameAsAt 19 = .ok (.getfield 32, 3) := dec_2 oX10_isSameAsAt (of180 _) 0 32 rfl rfl
theorem dX10_isSameAsAt_22 : decode cX10_isSameAsAt 22 = .ok (.iload_n 3, 1) := dec_0 oX10_isSameAsAt (of29 _) rfl
theorem dX10_isSameAsAt_23 : decode cX10_isSameAsAt 23 = .ok (.iadd, 1) := dec_0 oX10_isSameAsAt (of96 _) rfl
theorem dX10_isSameAsAt_24 : decode cX10_isSameAsAt 24 = .ok (.invokevirtual 38, 3) := dec_2 oX10_isSameAsAt (of182 _) 0 38 rfl rfl
theorem dX10_isSameAsAt_27 : decode cX10_isSameAsAt 27 = .ok (.aload_n 0, 1) := dec_0 oX10_isSameAsAt (of42 _) rfl
theorem dX10_isSameAsAt_28 : decode cX10_isSameAsAt 28 = .ok (.iload_n 1, 1) := dec_0 oX10_isSameAsAt (of27 _) rfl
theorem dX10_isSameAsAt_29 : decode cX10_isSameAsAt 29 = .ok (.iload_n 3, 1) := dec_0 oX10_isSameAsAt (of29 _) rfl
theorem dX10_isSameAsAt_30 : decode cX10_isSameAsAt 30 = .ok (.iadd, 1) := dec_0 oX10_isSameAsAt (of96 _) rfl
theorem dX10_isSameAsAt_31 : decode cX10_isSameAsAt 31 = .ok (.invokevirtual 38, 3) := dec_2 oX10_isSameAsAt (of182 _) 0 38 rfl rfl
theorem dX10_isSameAsAt_34 : decode cX10_isSameAsAt 34 = .ok (.if_icmp .eq 5, 3) := dec_s2 oX10_isSameAsAt (of159 _) 0 5 rfl (sg16p rfl) rfl
theorem dX10_isSameAsAt_37 : decode cX10_isSameAsAt 37 = .ok (.iconst 0, 1) := dec_0 oX10_isSameAsAt (of3 _) rfl
theorem dX10_isSameAsAt_38 : decode cX10_isSameAsAt 38 = .ok (.ireturn, 1) := dec_0 oX10_isSameAsAt (of172 _) rfl
theorem dX10_isSameAsAt_39 : decode cX10_isSameAsAt 39 = .ok (.iinc 3 1, 3) := dec_ii oX10_isSameAsAt (of132 _) 3 1 rfl (sg8p rfl) rfl
theorem dX10_isSameAsAt_42 : decode cX10_isSameAsAt 42 = .ok (.goto (-30), 3) := dec_s2 oX10_isSameAsAt (of167 _) 255 226 rfl (sg16n (k := 30) rfl) rfl
theorem dX10_isSameAsAt_45 : decode cX10_isSameAsAt 45 = .ok (.iconst 1, 1) := dec_0 oX10_isSameAsAt (of4 _) rfl
theorem dX10_isSameAsAt_46 : decode cX10_isSameAsAt 46 = .ok (.ireturn, 1) := dec_0 oX10_isSameAsAt (of172 _) rfl
theorem dX11_feed_13 : decode cX11_feed 13 = .ok (.iconst (-1), 1) := dec_0 oX11_feed (of2 _) rfl
theorem dX11_feed_14 : decode cX11_feed 14 = .ok (.ireturn, 1) := dec_0 oX11_feed (of172 _) rfl
theorem dX11_appendPlace_11 : decode cX11_appendPlace 11 = .ok (.iconst (-1), 1) := dec_0 oX11_appendPlace (of2 _) rfl
theorem dX11_appendPlace_12 : decode cX11_appendPlace 12 = .ok (.ireturn, 1) := dec_0 oX11_appendPlace (of172 _) rfl
theorem dX11_mend_18 : decode cX11_mend 18 = .ok (.aload_n 0, 1) := dec_0 oX11_mend (of42 _) rfl
theorem dX11_mend_19 : decode cX11_mend 19 = .ok (.getfield 28, 3) := dec_2 oX11_mend (of180 _) 0 28 rfl rfl
theorem dX11_mend_22 : decode cX11_mend 22 = .ok (.iload_n 1, 1) := dec_0 oX11_mend (of27 _) rfl
theorem dX11_mend_23 : decode cX11_mend 23 = .ok (.invokevirtual 139, 3) := dec_2 oX11_mend (of182 _) 0 139 rfl rfl
theorem dX11_mend_26 : decode cX11_mend 26 = .ok (.ifCond .eq 7, 3) := dec_s2 oX11_mend (of153 _) 0 7 rfl (sg16p rfl) rfl
theorem dX11_mend_33 : decode cX11_mend 33 = .ok (.aload_n 0, 1) := dec_0 oX11_mend (of42 _) rfl
theorem dX11_mend_34 : decode cX11_mend 34 = .ok (.getfield 28, 3) := dec_2 oX11_mend (of180 _) 0 28 rfl rfl
theorem dX11_mend_37 : decode cX11_mend 37 = .ok (.iload_n 1, 1) := dec_0 oX11_mend (of27 _) rfl
theorem dX11_mend_38 : decode cX11_mend 38 = .ok (.iconst 1, 1) := dec_0 oX11_mend (of4 _) rfl
theorem dX11_mend_39 : decode cX11_mend 39 = .ok (.isub, 1) := dec_0 oX11_mend (of100 _) rfl
theorem dX11_mend_40 : decode cX11_mend 40 = .ok (.invokevirtual 139, 3) := dec_2 oX11_mend (of182 _) 0 139 rfl rfl
theorem dX11_mend_43 : decode cX11_mend 43 = .ok (.ifCond .eq 16, 3) := dec_s2 oX11_mend (of153 _) 0 16 rfl (sg16p rfl) rfl
theorem dX11_mend_46 : decode cX11_mend 46 = .ok (.aload_n 0, 1) := dec_0 oX11_mend (of42 _) rfl
theorem dX11_mend_47 : decode cX11_mend 47 = .ok (.getfield 28, 3) := dec_2 oX11_mend (of180 _) 0 28 rfl rfl
theorem dX11_mend_50 : decode cX11_mend 50 = .ok (.iload_n 1, 1) := dec_0 oX11_mend (of27 _) rfl
theorem dX11_mend_51 : decode cX11_mend 51 = .ok (.iconst 1, 1) := dec_0 oX11_mend (of4 _) rfl
theorem dX11_mend_52 : decode cX11_mend 52 = .ok (.iadd, 1) := dec_0 oX11_mend (of96 _) rfl
theorem dX11_mend_53 : decode cX11_mend 53 = .ok (.invokevirtual 139, 3) := dec_2 oX11_mend (of182 _) 0 139 rfl rfl
theorem dX11_mend_56 : decode cX11_mend 56 = .ok (.ifCond .ne 7, 3) := dec_s2 oX11_mend (of154 _) 0 7 rfl (sg16p rfl) rfl
theorem dX11_mend_59 : decode cX11_mend 59 = .ok (.sipush (-1000), 3) := dec_s2 oX11_mend (of17 _) 252 24 rfl (sg16n (k := 1000) rfl) rfl
theorem dX11_mend_62 : decode cX11_mend 62 = .ok (.ireturn, 1) := dec_0 oX11_mend (of172 _) rfl
theorem dX11_mend_63 : decode cX11_mend 63 = .ok (.aload_n 0, 1) := dec_0 oX11_mend (of42 _) rfl
theorem dX11_mend_64 : decode cX11_mend 64 = .ok (.getfield 28, 3) := dec_2 oX11_mend (of180 _) 0 28 rfl rfl
theorem dX11_mend_67 : decode cX11_mend 67 = .ok (.iload_n 1, 1) := dec_0 oX11_mend (of27 _) rfl
theorem dX11_mend_68 : decode cX11_mend 68 = .ok (.iconst 1, 1) := dec_0 oX11_mend (of4 _) rfl
theorem dX11_mend_69 : decode cX11_mend 69 = .ok (.isub, 1) := dec_0 oX11_mend (of100 _) rfl
theorem dX11_mend_70 : decode cX11_mend 70 = .ok (.invokevirtual 120, 3) := dec_2 oX11_mend (of182 _) 0 120 rfl rfl
theorem dX11_mend_73 : decode cX11_mend 73 = .ok (.aload_n 0, 1) := dec_0 oX11_mend (of42 _) rfl
theorem dX11_mend_74 : decode cX11_mend 74 = .ok (.getfield 28, 3) := dec_2 oX11_mend (of180 _) 0 28 rfl rfl
theorem dX11_mend_77 : decode cX11_mend 77 = .ok (.iload_n 1, 1) := dec_0 oX11_mend (of27 _) rfl
theorem dX11_mend_78 : decode cX11_mend 78 = .ok (.iconst 1, 1) := dec_0 oX11_mend (of4 _) rfl
theorem dX11_mend_79 : decode cX11_mend 79 = .ok (.iadd, 1) := dec_0 oX11_mend (of96 _) rfl
theorem dX11_mend_80 : decode cX11_mend 80 = .ok (.invokevirtual 120, 3) := dec_2 oX11_mend (of182 _) 0 120 rfl rfl
theorem dX11_mend_83 : decode cX11_mend 83 = .ok (.iadd, 1) := dec_0 oX11_mend (of96 _) rfl
theorem dX11_mend_84 : decode cX11_mend 84 = .ok (.iconst 2, 1) := dec_0 oX11_mend (of5 _) rfl
theorem dX11_mend_85 : decode cX11_mend 85 = .ok (.invokestatic 142, 3) := dec_2 oX11_mend (of184 _) 0 142 rfl rfl
theorem dX11_mend_88 : decode cX11_mend 88 = .ok (.istore_n 2, 1) := dec_0 oX11_mend (of61 _) rfl
theorem dX11_mend_89 : decode cX11_mend 89 = .ok (.aload_n 0, 1) := dec_0 oX11_mend (of42 _) rfl
theorem dX11_mend_90 : decode cX11_mend 90 = .ok (.getfield 28, 3) := dec_2 oX11_mend (of180 _) 0 28 rfl rfl
theorem dX11_mend_93 : decode cX11_mend 93 = .ok (.iload_n 1, 1) := dec_0 oX11_mend (of27 _) rfl
theorem dX11_mend_94 : decode cX11_mend 94 = .ok (.iload_n 2, 1) := dec_0 oX11_mend (of28 _) rfl
theorem dX11_mend_95 : decode cX11_mend 95 = .ok (.invokevirtual 147, 3) := dec_2 oX11_mend (of182 _) 0 147 rfl rfl
theorem dX11_mend_98 : decode cX11_mend 98 = .ok (.aload_n 0, 1) := dec_0 oX11_mend (of42 _) rfl
theorem dX11_mend_99 : decode cX11_mend 99 = .ok (.getfield 49, 3) := dec_2 oX11_mend (of180 _) 0 49 rfl rfl
theorem dX11_mend_102 : decode cX11_mend 102 = .ok (.iconst 1, 1) := dec_0 oX11_mend (of4 _) rfl
theorem dX11_mend_103 : decode cX11_mend 103 = .ok (.iload_n 1, 1) := dec_0 oX11_mend (of27 _) rfl
theorem dX11_mend_104 : decode cX11_mend 104 = .ok (.iconst 0, 1) := dec_0 oX11_mend (of3 _) rfl
theorem dX11_mend_105 : decode cX11_mend 105 = .ok (.invokevirtual 134, 3) := dec_2 oX11_mend (of182 _) 0 134 rfl rfl
theorem dX11_mend_108 : decode cX11_mend 108 = .ok (.iload_n 2, 1) := dec_0 oX11_mend (of28 _) rfl
theorem dX11_mend_109 : decode cX11_mend 109 = .ok (.ireturn, 1) := dec_0 oX11_mend (of172 _) rfl
theorem dX11_drop_13 : decode cX11_drop 13 = .ok (.aload_n 0, 1) := dec_0 oX11_drop (of42 _) rfl
theorem dX11_drop_14 : decode cX11_drop 14 = .ok (.getfield 49, 3) := dec_2 oX11_drop (of180 _) 0 49 rfl rfl
theorem dX11_drop_17 : decode cX11_drop 17 = .ok (.iconst 2, 1) := dec_0 oX11_drop (of5 _) rfl
theorem dX11_drop_18 : decode cX11_drop 18 = .ok (.iload_n 1, 1) := dec_0 oX11_drop (of27 _) rfl
theorem dX11_drop_19 : decode cX11_drop 19 = .ok (.iconst 0, 1) := dec_0 oX11_drop (of3 _) rfl
theorem dX11_drop_20 : decode cX11_drop 20 = .ok (.invokevirtual 134, 3) := dec_2 oX11_drop (of182 _) 0 134 rfl rfl
theorem dX11_drop_23 : decode cX11_drop 23 = .ok (.iconst 1, 1) := dec_0 oX11_drop (of4 _) rfl
theorem dX11_drop_24 : decode cX11_drop 24 = .ok (.ireturn, 1) := dec_0 oX11_drop (of172 _) rfl
theorem dX11_undo_12 : decode cX11_undo 12 = .ok (.aload_n 0, 1) := dec_0 oX11_undo (of42 _) rfl
theorem dX11_undo_13 : decode cX11_undo 13 = .ok (.getfield 49, 3) := dec_2 oX11_undo (of180 _) 0 49 rfl rfl
theorem dX11_undo_16 : decode cX11_undo 16 = .ok (.invokevirtual 168, 3) := dec_2 oX11_undo (of182 _) 0 168 rfl rfl
theorem dX11_undo_19 : decode cX11_undo 19 = .ok (.istore_n 1, 1) := dec_0 oX11_undo (of60 _) rfl
theorem dX11_undo_20 : decode cX11_undo 20 = .ok (.aload_n 0, 1) := dec_0 oX11_undo (of42 _) rfl
theorem dX11_undo_21 : decode cX11_undo 21 = .ok (.getfield 49, 3) := dec_2 oX11_undo (of180 _) 0 49 rfl rfl
theorem dX11_undo_24 : decode cX11_undo 24 = .ok (.invokevirtual 171, 3) := dec_2 oX11_undo (of182 _) 0 171 rfl rfl
theorem dX11_undo_27 : decode cX11_undo 27 = .ok (.tableswitch 60 0 2 #[25, 35, 49], 25) := by decide +kernel
theorem dX11_undo_52 : decode cX11_undo 52 = .ok (.aload_n 0, 1) := dec_0 oX11_undo (of42 _) rfl
theorem dX11_undo_53 : decode cX11_undo 53 = .ok (.getfield 28, 3) := dec_2 oX11_undo (of180 _) 0 28 rfl rfl
theorem dX11_undo_56 : decode cX11_undo 56 = .ok (.invokevirtual 174, 3) := dec_2 oX11_undo (of182 _) 0 174 rfl rfl
theorem dX11_undo_59 : decode cX11_undo 59 = .ok (.goto 43, 3) := dec_s2 oX11_undo (of167 _) 0 43 rfl (sg16p rfl) rfl
theorem dX11_undo_62 : decode cX11_undo 62 = .ok (.aload_n 0, 1) := dec_0 oX11_undo (of42 _) rfl
theorem dX11_undo_63 : decode cX11_undo 63 = .ok (.getfield 28, 3) := dec_2 oX11_undo (of180 _) 0 28 rfl rfl
theorem dX11_undo_66 : decode cX11_undo 66 = .ok (.iload_n 1, 1) := dec_0 oX11_undo (of27 _) rfl
theorem dX11_undo_67 : decode cX11_undo 67 = .ok (.sipush (-1000), 3) := dec_s2 oX11_undo (of17 _) 252 24 rfl (sg16n (k := 1000) rfl) rfl
theorem dX11_undo_70 : decode cX11_undo 70 = .ok (.invokevirtual 147, 3) := dec_2 oX11_undo (of182 _) 0 147 rfl rfl
theorem dX11_undo_73 : decode cX11_undo 73 = .ok (.goto 29, 3) := dec_s2 oX11_undo (of167 _) 0 29 rfl (sg16p rfl) rfl
theorem dX11_undo_76 : decode cX11_undo 76 = .ok (.aload_n 0, 1) := dec_0 oX11_undo (of42 _) rfl
theorem dX11_undo_77 : decode cX11_undo 77 = .ok (.getfield 28, 3) := dec_2 oX11_undo (of180 _) 0 28 rfl rfl
theorem dX11_undo_80 : decode cX11_undo 80 = .ok (.iload_n 1, 1) := dec_0 oX11_undo (of27 _) rfl
theorem dX11_undo_81 : decode cX11_undo 81 = .ok (.invokevirtual 177, 3) := dec_2 oX11_undo (of182 _) 0 177 rfl rfl
theorem dX11_undo_84 : decode cX11_undo 84 = .ok (.goto 18, 3) := dec_s2 oX11_undo (of167 _) 0 18 rfl (sg16p rfl) rfl
theorem dX11_undo_87 : decode cX11_undo 87 = .ok (.aload_n 0, 1) := dec_0 oX11_undo (of42 _) rfl
theorem dX11_undo_88 : decode cX11_undo 88 = .ok (.getfield 42, 3) := dec_2 oX11_undo (of180 _) 0 42 rfl rfl
theorem dX11_undo_91 : decode cX11_undo 91 = .ok (.iload_n 1, 1) := dec_0 oX11_undo (of27 _) rfl
theorem dX11_undo_92 : decode cX11_undo 92 = .ok (.aload_n 0, 1) := dec_0 oX11_undo (of42 _) rfl
theorem dX11_undo_93 : decode cX11_undo 93 = .ok (.getfield 49, 3) := dec_2 oX11_undo (of180 _) 0 49 rfl rfl
theorem dX11_undo_96 : decode cX11_undo 96 = .ok (.invokevirtual 180, 3) := dec_2 oX11_undo (of182 _) 0 180 rfl rfl
theorem dX11_undo_99 : decode cX11_undo 99 = .ok (.invokevirtual 161, 3) := dec_2 oX11_undo (of182 _) 0 161 rfl rfl
theorem dX11_undo_102 : decode cX11_undo 102 = .ok (.iconst 1, 1) := dec_0 oX11_undo (of4 _) rfl
theorem dX11_undo_103 : decode cX11_undo 103 = .ok (.ireturn, 1) := dec_0 oX11_undo (of172 _) rfl
theorem dX11_window_20 : decode cX11_window 20 = .ok (.iload_n 3, 1) := dec_0 oX11_window (of29 _) rfl
theorem dX11_window_21 : decode cX11_window 21 = .ok (.tableswitch 75 0 3 #[31, 41, 51, 61], 31) := by decide +kernel
theorem dX11_window_52 : decode cX11_window 52 = .ok (.aload_n 0, 1) := dec_0 oX11_window (of42 _) rfl
theorem dX11_window_53 : decode cX11_window 53 = .ok (.getfield 28, 3) := dec_2 oX11_window (of180 _) 0 28 rfl rfl
theorem dX11_window_56 : decode cX11_window 56 = .ok (.iload_n 1, 1) := dec_0 oX11_window (of27 _) rfl
theorem dX11_window_57 : decode cX11_window 57 = .ok (.iload_n 2, 1) := dec_0 oX11_window (of28 _) rfl
theorem dX11_window_58 : decode cX11_window 58 = .ok (.invokevirtual 187, 3) := dec_2 oX11_window (of182 _) 0 187 rfl rfl
theorem dX11_window_61 : decode cX11_window 61 = .ok (.ireturn, 1) := dec_0 oX11_window (of172 _) rfl
theorem dX11_window_62 : decode cX11_window 62 = .ok (.aload_n 0, 1) := dec_0 oX11_window (of42 _) rfl
theorem dX11_window_63 : decode cX11_window 63 = .ok (.getfield 28, 3) := dec_2 oX11_window (of180 _) 0 28 rfl rfl
theorem dX11_window_66 : decode cX11_window 66 = .ok (.iload_n 1, 1) := dec_0 oX11_window (of27 _) rfl
theorem dX11_window_67 : decode cX11_window 67 = .ok (.iload_n 2, 1) := dec_0 oX11_window (of28 _) rfl
theorem dX11_window_68 : decode cX11_window 68 = .ok (.invokevirtual 190, 3) := dec_2 oX11_window (of182 _) 0 190 rfl rfl
theorem dX11_window_71 : decode cX11_window 71 = .ok (.ireturn, 1) := dec_0 oX11_window (of172 _) rfl
theorem dX11_window_72 : decode cX11_window 72 = .ok (.aload_n 0, 1) := dec_0 oX11_window (of42 _) rfl
theorem dX11_window_73 : decode cX11_window 73 = .ok (.getfield 28, 3) := dec_2 oX11_window (of180 _) 0 28 rfl rfl
theorem dX11_window_76 : decode cX11_window 76 = .ok (.iload_n 1, 1) := dec_0 oX11_window (of27 _) rfl
theorem dX11_window_77 : decode cX11_window 77 = .ok (.iload_n 2, 1) := dec_0 oX11_window (of28 _) rfl
theorem dX11_window_78 : decode cX11_window 78 = .ok (.invokevirtual 193, 3) := dec_2 oX11_window (of182 _) 0 193 rfl rfl
theorem dX11_window_81 : decode cX11_window 81 = .ok (.ireturn, 1) := dec_0 oX11_window (of172 _) rfl
theorem dX11_window_82 : decode cX11_window 82 = .ok (.aload_n 0, 1) := dec_0 oX11_window (of42 _) rfl
theorem dX11_window_83 : decode cX11_window 83 = .ok (.getfield 28, 3) := dec_2 oX11_window (of180 _) 0 28 rfl rfl
theorem dX11_window_86 : decode cX11_window 86 = .ok (.iload_n 1, 1) := dec_0 oX11_window (of27 _) rfl
theorem dX11_window_87 : decode cX11_window 87 = .ok (.iload_n 2, 1) := dec_0 oX11_window (of28 _) rfl
theorem dX11_window_88 : decode cX11_window 88 = .ok (.invokevirtual 187, 3) := dec_2 oX11_window (of182 _) 0 187 rfl rfl
theorem dX11_window_91 : decode cX11_window 91 = .ok (.iload_n 2, 1) := dec_0 oX11_window (of28 _) rfl
theorem dX11_window_92 : decode cX11_window 92 = .ok (.invokestatic 142, 3) := dec_2 oX11_window (of184 _) 0 142 rfl rfl
theorem dX11_window_95 : decode cX11_window 95 = .ok (.ireturn, 1) := dec_0 oX11_window (of172 _) rfl
theorem dX11_window_96 : decode cX11_window 96 = .ok (.ldc 186, 2) := dec_1 oX11_window (of18 _) 186 rfl rfl
theorem dX11_window_98 : decode cX11_window 98 = .ok (.ireturn, 1) := dec_0 oX11_window (of172 _) rfl
theorem dX11_level_31 : decode cX11_level 31 = .ok (.aload_n 0, 1) := dec_0 oX11_level (of42 _) rfl
theorem dX11_level_32 : decode cX11_level 32 = .ok (.getfield 65, 3) := dec_2 oX11_level (of180 _) 0 65 rfl rfl
theorem dX11_level_35 : decode cX11_level 35 = .ok (.iload_n 1, 1) := dec_0 oX11_level (of27 _) rfl
theorem dX11_level_36 : decode cX11_level 36 = .ok (.iload_n 2, 1) := dec_0 oX11_level (of28 _) rfl
theorem dX11_level_37 : decode cX11_level 37 = .ok (.invokevirtual 199, 3) := dec_2 oX11_level (of182 _) 0 199 rfl rfl
theorem dX11_level_40 : decode cX11_level 40 = .ok (.aload_n 0, 1) := dec_0 oX11_level (of42 _) rfl
theorem dX11_level_41 : decode cX11_level 41 = .ok (.getfield 65, 3) := dec_2 oX11_level (of180 _) 0 65 rfl rfl
theorem dX11_level_44 : decode cX11_level 44 = .ok (.getfield 202, 3) := dec_2 oX11_level (of180 _) 0 202 rfl rfl
theorem dX11_level_47 : decode cX11_level 47 = .ok (.getfield 206, 3) := dec_2 oX11_level (of180 _) 0 206 rfl rfl
theorem dX11_level_50 : decode cX11_level 50 = .ok (.iload_n 3, 1) := dec_0 oX11_level (of29 _) rfl
theorem dX11_level_51 : decode cX11_level 51 = .ok (.iaload, 1) := dec_0 oX11_level (of46 _) rfl
theorem dX11_level_52 : decode cX11_level 52 = .ok (.ireturn, 1) := dec_0 oX11_level (of172 _) rfl
theorem dX11_distance_12 : decode cX11_distance 12 = .ok (.aload_n 0, 1) := dec_0 oX11_distance (of42 _) rfl
theorem dX11_distance_13 : decode cX11_distance 13 = .ok (.getfield 65, 3) := dec_2 oX11_distance (of180 _) 0 65 rfl rfl
theorem dX11_distance_16 : decode cX11_distance 16 = .ok (.getfield 202, 3) := dec_2 oX11_distance (of180 _) 0 202 rfl rfl
theorem dX11_distance_19 : decode cX11_distance 19 = .ok (.invokevirtual 215, 3) := dec_2 oX11_distance (of182 _) 0 215 rfl rfl
theorem dX11_distance_22 : decode cX11_distance 22 = .ok (.goto 4, 3) := dec_s2 oX11_distance (of167 _) 0 4 rfl (sg16p rfl) rfl
theorem dX11_bound_14 : decode cX11_bound 14 = .ok (.iload_n 3, 1) := dec_0 oX11_bound (of29 _) rfl
theorem dX11_bound_15 : decode cX11_bound 15 = .ok (.tableswitch 58 0 2 #[25, 36, 47], 25) := by decide +kernel
theorem dX11_bound_40 : decode cX11_bound 40 = .ok (.aload_n 0, 1) := dec_0 oX11_bound (of42 _) rfl
theorem dX11_bound_41 : decode cX11_bound 41 = .ok (.getfield 65, 3) := dec_2 oX11_bound (of180 _) 0 65 rfl rfl
theorem dX11_bound_44 : decode cX11_bound 44 = .ok (.getfield 202, 3) := dec_2 oX11_bound (of180 _) 0 202 rfl rfl
theorem dX11_bound_47 : decode cX11_bound 47 = .ok (.invokevirtual 218, 3) := dec_2 oX11_bound (of182 _) 0 218 rfl rfl
theorem dX11_bound_50 : decode cX11_bound 50 = .ok (.ireturn, 1) := dec_0 oX11_bound (of172 _) rfl
theorem dX11_bound_51 : decode cX11_bound 51 = .ok (.aload_n 0, 1) := dec_0 oX11_bound (of42 _) rfl
theorem dX11_bound_52 : decode cX11_bound 52 = .ok (.getfield 65, 3) := dec_2 oX11_bound (of180 _) 0 65 rfl rfl
theorem dX11_bound_55 : decode cX11_bound 55 = .ok (.getfield 202, 3) := dec_2 oX11_bound (of180 _) 0 202 rfl rfl
theorem dX11_bound_58 : decode cX11_bound 58 = .ok (.invokevirtual 221, 3) := dec_2 oX11_bound (of182 _) 0 221 rfl rfl
theorem dX11_bound_61 : decode cX11_bound 61 = .ok (.ireturn, 1) := dec_0 oX11_bound (of172 _) rfl
theorem dX11_bound_62 : decode cX11_bound 62 = .ok (.aload_n 0, 1) := dec_0 oX11_bound (of42 _) rfl
theorem dX11_bound_63 : decode cX11_bound 63 = .ok (.getfield 65, 3) := dec_2 oX11_bound (of180 _) 0 65 rfl rfl
theorem dX11_bound_66 : decode cX11_bound 66 = .ok (.getfield 202, 3) := dec_2 oX11_bound (of180 _) 0 202 rfl rfl
theorem dX11_bound_69 : decode cX11_bound 69 = .ok (.invokevirtual 224, 3) := dec_2 oX11_bound (of182 _) 0 224 rfl rfl
theorem dX11_bound_72 : decode cX11_bound 72 = .ok (.ireturn, 1) := dec_0 oX11_bound (of172 _) rfl
theorem dX11_bound_73 : decode cX11_bound 73 = .ok (.iconst (-1), 1) := dec_0 oX11_bound (of2 _) rfl
theorem dX11_bound_74 : decode cX11_bound 74 = .ok (.ireturn, 1) := dec_0 oX11_bound (of172 _) rfl
theorem dX11_look_29 : decode cX11_look 29 = .ok (.aload_n 0, 1) := dec_0 oX11_look (of42 _) rfl
theorem dX11_look_30 : decode cX11_look 30 = .ok (.getfield 65, 3) := dec_2 oX11_look (of180 _) 0 65 rfl rfl
theorem dX11_look_33 : decode cX11_look 33 = .ok (.getfield 202, 3) := dec_2 oX11_look (of180 _) 0 202 rfl rfl
theorem dX11_look_36 : decode cX11_look 36 = .ok (.iload_n 3, 1) := dec_0 oX11_look (of29 _) rfl
theorem dX11_look_37 : decode cX11_look 37 = .ok (.invokevirtual 227, 3) := dec_2 oX11_look (of182 _) 0 227 rfl rfl
theorem dX11_look_40 : decode cX11_look 40 = .ok (.istore 5, 2) := dec_1 oX11_look (of54 _) 5 rfl rfl
theorem dX11_look_42 : decode cX11_look 42 = .ok (.iload 4, 2) := dec_1 oX11_look (of21 _) 4 rfl rfl
theorem dX11_look_44 : decode cX11_look 44 = .ok (.ifCond .ne 6, 3) := dec_s2 oX11_look (of154 _) 0 6 rfl (sg16p rfl) rfl
theorem dX11_look_47 : decode cX11_look 47 = .ok (.iload 5, 2) := dec_1 oX11_look (of21 _) 5 rfl rfl
theorem dX11_look_49 : decode cX11_look 49 = .ok (.ireturn, 1) := dec_0 oX11_look (of172 _) rfl
theorem dX11_look_50 : decode cX11_look 50 = .ok (.iload 4, 2) := dec_1 oX11_look (of21 _) 4 rfl rfl
theorem dX11_look_52 : decode cX11_look 52 = .ok (.iconst 1, 1) := dec_0 oX11_look (of4 _) rfl
theorem dX11_look_53 : decode cX11_look 53 = .ok (.if_icmp .ne 16, 3) := dec_s2 oX11_look (of160 _) 0 16 rfl (sg16p rfl) rfl
theorem dX11_look_56 : decode cX11_look 56 = .ok (.aload_n 0, 1) := dec_0 oX11_look (of42 _) rfl
theorem dX11_look_57 : decode cX11_look 57 = .ok (.getfield 65, 3) := dec_2 oX11_look (of180 _) 0 65 rfl rfl
theorem dX11_look_60 : decode cX11_look 60 = .ok (.getfield 202, 3) := dec_2 oX11_look (of180 _) 0 202 rfl rfl
theorem dX11_look_63 : decode cX11_look 63 = .ok (.getfield 230, 3) := dec_2 oX11_look (of180 _) 0 230 rfl rfl
theorem dX11_look_66 : decode cX11_look 66 = .ok (.goto 13, 3) := dec_s2 oX11_look (of167 _) 0 13 rfl (sg16p rfl) rfl
theorem dX11_look_69 : decode cX11_look 69 = .ok (.aload_n 0, 1) := dec_0 oX11_look (of42 _) rfl
theorem dX11_look_70 : decode cX11_look 70 = .ok (.getfield 65, 3) := dec_2 oX11_look (of180 _) 0 65 rfl rfl
theorem dX11_look_73 : decode cX11_look 73 = .ok (.getfield 202, 3) := dec_2 oX11_look (of180 _) 0 202 rfl rfl
theorem dX11_look_76 : decode cX11_look 76 = .ok (.getfield 233, 3) := dec_2 oX11_look (of180 _) 0 233 rfl rfl
theorem dX11_look_79 : decode cX11_look 79 = .ok (.ireturn, 1) := dec_0 oX11_look (of172 _) rfl
theorem dX11_way_14 : decode cX11_way 14 = .ok (.aload_n 0, 1) := dec_0 oX11_way (of42 _) rfl
theorem dX11_way_15 : decode cX11_way 15 = .ok (.getfield 65, 3) := dec_2 oX11_way (of180 _) 0 65 rfl rfl
theorem dX11_way_18 : decode cX11_way 18 = .ok (.getfield 202, 3) := dec_2 oX11_way (of180 _) 0 202 rfl rfl
theorem dX11_way_21 : decode cX11_way 21 = .ok (.invokevirtual 236, 3) := dec_2 oX11_way (of182 _) 0 236 rfl rfl
theorem dX11_way_24 : decode cX11_way 24 = .ok (.iload_n 3, 1) := dec_0 oX11_way (of29 _) rfl
theorem dX11_way_25 : decode cX11_way 25 = .ok (.iconst (-1), 1) := dec_0 oX11_way (of2 _) rfl
theorem dX11_way_26 : decode cX11_way 26 = .ok (.if_icmp .ne 16, 3) := dec_s2 oX11_way (of160 _) 0 16 rfl (sg16p rfl) rfl
theorem dX11_way_29 : decode cX11_way 29 = .ok (.aload_n 0, 1) := dec_0 oX11_way (of42 _) rfl
theorem dX11_way_30 : decode cX11_way 30 = .ok (.getfield 65, 3) := dec_2 oX11_way (of180 _) 0 65 rfl rfl
theorem dX11_way_33 : decode cX11_way 33 = .ok (.getfield 202, 3) := dec_2 oX11_way (of180 _) 0 202 rfl rfl
theorem dX11_way_36 : decode cX11_way 36 = .ok (.getfield 239, 3) := dec_2 oX11_way (of180 _) 0 239 rfl rfl
theorem dX11_way_39 : decode cX11_way 39 = .ok (.goto 14, 3) := dec_s2 oX11_way (of167 _) 0 14 rfl (sg16p rfl) rfl
theorem dX11_way_42 : decode cX11_way 42 = .ok (.aload_n 0, 1) := dec_0 oX11_way (of42 _) rfl
theorem dX11_way_43 : decode cX11_way 43 = .ok (.getfield 65, 3) := dec_2 oX11_way (of180 _) 0 65 rfl rfl
theorem dX11_way_46 : decode cX11_way 46 = .ok (.getfield 202, 3) := dec_2 oX11_way (of180 _) 0 202 rfl rfl
theorem dX11_way_49 : decode cX11_way 49 = .ok (.iload_n 3, 1) := dec_0 oX11_way (of29 _) rfl
theorem dX11_way_50 : decode cX11_way 50 = .ok (.invokevirtual 242, 3) := dec_2 oX11_way (of182 _) 0 242 rfl rfl
theorem dX11_way_53 : decode cX11_way 53 = .ok (.ireturn, 1) := dec_0 oX11_way (of172 _) rfl
theorem dX11_lean_23 : decode cX11_lean 23 = .ok (.aload_n 0, 1) := dec_0 oX11_lean (of42 _) rfl
theorem dX11_lean_24 : decode cX11_lean 24 = .ok (.getfield 65, 3) := dec_2 oX11_lean (of180 _) 0 65 rfl rfl
theorem dX11_lean_27 : decode cX11_lean 27 = .ok (.getfield 202, 3) := dec_2 oX11_lean (of180 _) 0 202 rfl rfl
theorem dX11_lean_30 : decode cX11_lean 30 = .ok (.invokevirtual 236, 3) := dec_2 oX11_lean (of182 _) 0 236 rfl rfl
theorem dX11_lean_33 : decode cX11_lean 33 = .ok (.iload_n 3, 1) := dec_0 oX11_lean (of29 _) rfl
theorem dX11_lean_34 : decode cX11_lean 34 = .ok (.ifCond .ne 16, 3) := dec_s2 oX11_lean (of154 _) 0 16 rfl (sg16p rfl) rfl
theorem dX11_lean_37 : decode cX11_lean 37 = .ok (.aload_n 0, 1) := dec_0 oX11_lean (of42 _) rfl
theorem dX11_lean_38 : decode cX11_lean 38 = .ok (.getfield 65, 3) := dec_2 oX11_lean (of180 _) 0 65 rfl rfl
theorem dX11_lean_41 : decode cX11_lean 41 = .ok (.getfield 202, 3) := dec_2 oX11_lean (of180 _) 0 202 rfl rfl
theorem dX11_lean_44 : decode cX11_lean 44 = .ok (.invokevirtual 245, 3) := dec_2 oX11_lean (of182 _) 0 245 rfl rfl
theorem dX11_lean_47 : decode cX11_lean 47 = .ok (.goto 13, 3) := dec_s2 oX11_lean (of167 _) 0 13 rfl (sg16p rfl) rfl
theorem dX11_lean_50 : decode cX11_lean 50 = .ok (.aload_n 0, 1) := dec_0 oX11_lean (of42 _) rfl
theorem dX11_lean_51 : decode cX11_lean 51 = .ok (.getfield 65, 3) := dec_2 oX11_lean (of180 _) 0 65 rfl rfl
theorem dX11_lean_54 : decode cX11_lean 54 = .ok (.getfield 202, 3) := dec_2 oX11_lean (of180 _) 0 202 rfl rfl
theorem dX11_lean_57 : decode cX11_lean 57 = .ok (.invokevirtual 248, 3) := dec_2 oX11_lean (of182 _) 0 248 rfl rfl
theorem dX11_lean_60 : decode cX11_lean 60 = .ok (.ireturn, 1) := dec_0 oX11_lean (of172 _) rfl
theorem dX11_alike_11 : decode cX11_alike 11 = .ok (.aload_n 0, 1) := dec_0 oX11_alike (of42 _) rfl
theorem dX11_alike_12 : decode cX11_alike 12 = .ok (.getfield 35, 3) := dec_2 oX11_alike (of180 _) 0 35 rfl rfl
theorem dX11_alike_15 : decode cX11_alike 15 = .ok (.iload_n 2, 1) := dec_0 oX11_alike (of28 _) rfl
theorem dX11_alike_16 : decode cX11_alike 16 = .ok (.invokevirtual 251, 3) := dec_2 oX11_alike (of182 _) 0 251 rfl rfl
theorem dX11_alike_19 : decode cX11_alike 19 = .ok (.ifCond .ne 5, 3) := dec_s2 oX11_alike (of154 _) 0 5 rfl (sg16p rfl) rfl
theorem dX11_alike_24 : decode cX11_alike 24 = .ok (.aload_n 0, 1) := dec_0 oX11_alike (of42 _) rfl
theorem dX11_alike_25 : decode cX11_alike 25 = .ok (.getfield 35, 3) := dec_2 oX11_alike (of180 _) 0 35 rfl rfl
theorem dX11_alike_28 : decode cX11_alike 28 = .ok (.iload_n 1, 1) := dec_0 oX11_alike (of27 _) rfl
theorem dX11_alike_29 : decode cX11_alike 29 = .ok (.invokevirtual 254, 3) := dec_2 oX11_alike (of182 _) 0 254 rfl rfl
theorem dX11_alike_32 : decode cX11_alike 32 = .ok (.aload_n 0, 1) := dec_0 oX11_alike (of42 _) rfl
theorem dX11_alike_33 : decode cX11_alike 33 = .ok (.getfield 35, 3) := dec_2 oX11_alike (of180 _) 0 35 rfl rfl
theorem dX11_alike_36 : decode cX11_alike 36 = .ok (.iload_n 2, 1) := dec_0 oX11_alike (of28 _) rfl
theorem dX11_alike_37 : decode cX11_alike 37 = .ok (.invokevirtual 254, 3) := dec_2 oX11_alike (of182 _) 0 254 rfl rfl
theorem dX11_alike_40 : decode cX11_alike 40 = .ok (.if_icmp .eq 6, 3) := dec_s2 oX11_alike (of159 _) 0 6 rfl (sg16p rfl) rfl
theorem dX11_alike_43 : decode cX11_alike 43 = .ok (.bipush (-2), 2) := dec_s1 oX11_alike (of16 _) 254 rfl (sg8n (k := 2) rfl) rfl
theorem dX11_alike_45 : decode cX11_alike 45 = .ok (.ireturn, 1) := dec_0 oX11_alike (of172 _) rfl
theorem dX11_alike_46 : decode cX11_alike 46 = .ok (.aload_n 0, 1) := dec_0 oX11_alike (of42 _) rfl
theorem dX11_alike_47 : decode cX11_alike 47 = .ok (.getfield 65, 3) := dec_2 oX11_alike (of180 _) 0 65 rfl rfl
theorem dX11_alike_50 : decode cX11_alike 50 = .ok (.iload_n 1, 1) := dec_0 oX11_alike (of27 _) rfl
theorem dX11_alike_51 : decode cX11_alike 51 = .ok (.aload_n 0, 1) := dec_0 oX11_alike (of42 _) rfl
theorem dX11_alike_52 : decode cX11_alike 52 = .ok (.getfield 42, 3) := dec_2 oX11_alike (of180 _) 0 42 rfl rfl
theorem dX11_alike_55 : decode cX11_alike 55 = .ok (.iconst 0, 1) := dec_0 oX11_alike (of3 _) rfl
theorem dX11_alike_56 : decode cX11_alike 56 = .ok (.invokevirtual 154, 3) := dec_2 oX11_alike (of182 _) 0 154 rfl rfl
theorem dX11_alike_59 : decode cX11_alike 59 = .ok (.invokevirtual 257, 3) := dec_2 oX11_alike (of182 _) 1 1 rfl rfl
theorem dX11_alike_62 : decode cX11_alike 62 = .ok (.aload_n 0, 1) := dec_0 oX11_alike (of42 _) rfl
theorem dX11_alike_63 : decode cX11_alike 63 = .ok (.getfield 65, 3) := dec_2 oX11_alike (of180 _) 0 65 rfl rfl
theorem dX11_alike_66 : decode cX11_alike 66 = .ok (.iload_n 2, 1) := dec_0 oX11_alike (of28 _) rfl
theorem dX11_alike_67 : decode cX11_alike 67 = .ok (.invokevirtual 260, 3) := dec_2 oX11_alike (of182 _) 1 4 rfl rfl
theorem dX11_alike_70 : decode cX11_alike 70 = .ok (.aload_n 0, 1) := dec_0 oX11_alike (of42 _) rfl
theorem dX11_alike_71 : decode cX11_alike 71 = .ok (.getfield 65, 3) := dec_2 oX11_alike (of180 _) 0 65 rfl rfl
theorem dX11_alike_74 : decode cX11_alike 74 = .ok (.getfield 202, 3) := dec_2 oX11_alike (of180 _) 0 202 rfl rfl
theorem dX11_alike_77 : decode cX11_alike 77 = .ok (.invokevirtual 215, 3) := dec_2 oX11_alike (of182 _) 0 215 rfl rfl
theorem dX11_alike_80 : decode cX11_alike 80 = .ok (.ireturn, 1) := dec_0 oX11_alike (of172 _) rfl
theorem dX11_whose_12 : decode cX11_whose 12 = .ok (.aload_n 0, 1) := dec_0 oX11_whose (of42 _) rfl
theorem dX11_whose_13 : decode cX11_whose 13 = .ok (.getfield 74, 3) := dec_2 oX11_whose (of180 _) 0 74 rfl rfl
theorem dX11_whose_16 : decode cX11_whose 16 = .ok (.iload_n 1, 1) := dec_0 oX11_whose (of27 _) rfl
theorem dX11_whose_17 : decode cX11_whose 17 = .ok (.iload_n 2, 1) := dec_0 oX11_whose (of28 _) rfl
theorem dX11_whose_18 : decode cX11_whose 18 = .ok (.invokevirtual 263, 3) := dec_2 oX11_whose (of182 _) 1 7 rfl rfl
theorem dX11_whose_21 : decode cX11_whose 21 = .ok (.goto 4, 3) := dec_s2 oX11_whose (of167 _) 0 4 rfl (sg16p rfl) rfl
theorem dX11_best_22 : decode cX11_best 22 = .ok (.aload_n 0, 1) := dec_0 oX11_best (of42 _) rfl
theorem dX11_best_23 : decode cX11_best 23 = .ok (.getfield 74, 3) := dec_2 oX11_best (of180 _) 0 74 rfl rfl
theorem dX11_best_26 : decode cX11_best 26 = .ok (.iload_n 1, 1) := dec_0 oX11_best (of27 _) rfl
theorem dX11_best_27 : decode cX11_best 27 = .ok (.aload_n 0, 1) := dec_0 oX11_best (of42 _) rfl
theorem dX11_best_28 : decode cX11_best 28 = .ok (.getfield 42, 3) := dec_2 oX11_best (of180 _) 0 42 rfl rfl
theorem dX11_best_31 : decode cX11_best 31 = .ok (.iconst 0, 1) := dec_0 oX11_best (of3 _) rfl
theorem dX11_best_32 : decode cX11_best 32 = .ok (.invokevirtual 154, 3) := dec_2 oX11_best (of182 _) 0 154 rfl rfl
theorem dX11_best_35 : decode cX11_best 35 = .ok (.invokevirtual 269, 3) := dec_2 oX11_best (of182 _) 1 13 rfl rfl
theorem dX11_best_38 : decode cX11_best 38 = .ok (.iload_n 2, 1) := dec_0 oX11_best (of28 _) rfl
theorem dX11_best_39 : decode cX11_best 39 = .ok (.ifCond .ne 13, 3) := dec_s2 oX11_best (of154 _) 0 13 rfl (sg16p rfl) rfl
theorem dX11_best_42 : decode cX11_best 42 = .ok (.aload_n 0, 1) := dec_0 oX11_best (of42 _) rfl
theorem dX11_best_43 : decode cX11_best 43 = .ok (.getfield 74, 3) := dec_2 oX11_best (of180 _) 0 74 rfl rfl
theorem dX11_best_46 : decode cX11_best 46 = .ok (.getfield 272, 3) := dec_2 oX11_best (of180 _) 1 16 rfl rfl
theorem dX11_best_49 : decode cX11_best 49 = .ok (.goto 10, 3) := dec_s2 oX11_best (of167 _) 0 10 rfl (sg16p rfl) rfl
theorem dX11_best_52 : decode cX11_best 52 = .ok (.aload_n 0, 1) := dec_0 oX11_best (of42 _) rfl
theorem dX11_best_53 : decode cX11_best 53 = .ok (.getfield 74, 3) := dec_2 oX11_best (of180 _) 0 74 rfl rfl
theorem dX11_best_56 : decode cX11_best 56 = .ok (.getfield 275, 3) := dec_2 oX11_best (of180 _) 1 19 rfl rfl
theorem dX11_best_59 : decode cX11_best 59 = .ok (.ireturn, 1) := dec_0 oX11_best (of172 _) rfl
theorem dX11_search_23 : decode cX11_search 23 = .ok (.aload_n 0, 1) := dec_0 oX11_search (of42 _) rfl
theorem dX11_search_24 : decode cX11_search 24 = .ok (.getfield 74, 3) := dec_2 oX11_search (of180 _) 0 74 rfl rfl
theorem dX11_search_27 : decode cX11_search 27 = .ok (.iload_n 1, 1) := dec_0 oX11_search (of27 _) rfl
theorem dX11_search_28 : decode cX11_search 28 = .ok (.invokevirtual 278, 3) := dec_2 oX11_search (of182 _) 1 22 rfl rfl
theorem dX11_search_31 : decode cX11_search 31 = .ok (.aload_n 0, 1) := dec_0 oX11_search (of42 _) rfl
theorem dX11_search_32 : decode cX11_search 32 = .ok (.getfield 74, 3) := dec_2 oX11_search (of180 _) 0 74 rfl rfl
theorem dX11_search_35 : decode cX11_search 35 = .ok (.getfield 281, 3) := dec_2 oX11_search (of180 _) 1 25 rfl rfl
theorem dX11_search_38 : decode cX11_search 38 = .ok (.iload_n 2, 1) := dec_0 oX11_search (of28 _) rfl
theorem dX11_search_39 : decode cX11_search 39 = .ok (.iaload, 1) := dec_0 oX11_search (of46 _) rfl
theorem dX11_search_40 : decode cX11_search 40 = .ok (.ireturn, 1) := dec_0 oX11_search (of172 _) rfl
theorem dX11_match_26 : decode cX11_match 26 = .ok (.aload_n 0, 1) := dec_0 oX11_match (of42 _) rfl
theorem dX11_match_27 : decode cX11_match 27 = .ok (.getfield 74, 3) := dec_2 oX11_match (of180 _) 0 74 rfl rfl
theorem dX11_match_30 : decode cX11_match 30 = .ok (.iload_n 1, 1) := dec_0 oX11_match (of27 _) rfl
theorem dX11_match_31 : decode cX11_match 31 = .ok (.invokevirtual 284, 3) := dec_2 oX11_match (of182 _) 1 28 rfl rfl
theorem dX11_match_34 : decode cX11_match 34 = .ok (.iload_n 3, 1) := dec_0 oX11_match (of29 _) rfl
theorem dX11_match_35 : decode cX11_match 35 = .ok (.ifCond .ne 14, 3) := dec_s2 oX11_match (of154 _) 0 14 rfl (sg16p rfl) rfl
theorem dX11_match_38 : decode cX11_match 38 = .ok (.aload_n 0, 1) := dec_0 oX11_match (of42 _) rfl
theorem dX11_match_39 : decode cX11_match 39 = .ok (.getfield 74, 3) := dec_2 oX11_match (of180 _) 0 74 rfl rfl
theorem dX11_match_42 : decode cX11_match 42 = .ok (.iload_n 2, 1) := dec_0 oX11_match (of28 _) rfl
theorem dX11_match_43 : decode cX11_match 43 = .ok (.invokevirtual 287, 3) := dec_2 oX11_match (of182 _) 1 31 rfl rfl
theorem dX11_match_46 : decode cX11_match 46 = .ok (.goto 11, 3) := dec_s2 oX11_match (of167 _) 0 11 rfl (sg16p rfl) rfl
theorem dX11_match_49 : decode cX11_match 49 = .ok (.aload_n 0, 1) := dec_0 oX11_match (of42 _) rfl
theorem dX11_match_50 : decode cX11_match 50 = .ok (.getfield 74, 3) := dec_2 oX11_match (of180 _) 0 74 rfl rfl
theorem dX11_match_53 : decode cX11_match 53 = .ok (.iload_n 2, 1) := dec_0 oX11_match (of28 _) rfl
theorem dX11_match_54 : decode cX11_match 54 = .ok (.invokevirtual 290, 3) := dec_2 oX11_match (of182 _) 1 34 rfl rfl
theorem dX11_match_57 : decode cX11_match 57 = .ok (.ireturn, 1) := dec_0 oX11_match (of172 _) rfl
theorem dX11_within_17 : decode cX11_within 17 = .ok (.aload_n 0, 1) := dec_0 oX11_within (of42 _) rfl
theorem dX11_within_18 : decode cX11_within 18 = .ok (.getfield 74, 3) := dec_2 oX11_within (of180 _) 0 74 rfl rfl
theorem dX11_within_21 : decode cX11_within 21 = .ok (.iload_n 1, 1) := dec_0 oX11_within (of27 _) rfl
theorem dX11_within_22 : decode cX11_within 22 = .ok (.invokevirtual 284, 3) := dec_2 oX11_within (of182 _) 1 28 rfl rfl
theorem dX11_within_25 : decode cX11_within 25 = .ok (.aload_n 0, 1) := dec_0 oX11_within (of42 _) rfl
theorem dX11_within_26 : decode cX11_within 26 = .ok (.getfield 74, 3) := dec_2 oX11_within (of180 _) 0 74 rfl rfl
theorem dX11_within_29 : decode cX11_within 29 = .ok (.iload_n 2, 1) := dec_0 oX11_within (of28 _) rfl
theorem dX11_within_30 : decode cX11_within 30 = .ok (.invokevirtual 293, 3) := dec_2 oX11_within (of182 _) 1 37 rfl rfl
theorem dX11_within_33 : decode cX11_within 33 = .ok (.ireturn, 1) := dec_0 oX11_within (of172 _) rfl
theorem dX11_cover_17 : decode cX11_cover 17 = .ok (.aload_n 0, 1) := dec_0 oX11_cover (of42 _) rfl
theorem dX11_cover_18 : decode cX11_cover 18 = .ok (.getfield 74, 3) := dec_2 oX11_cover (of180 _) 0 74 rfl rfl
theorem dX11_cover_21 : decode cX11_cover 21 = .ok (.iload_n 1, 1) := dec_0 oX11_cover (of27 _) rfl
theorem dX11_cover_22 : decode cX11_cover 22 = .ok (.invokevirtual 284, 3) := dec_2 oX11_cover (of182 _) 1 28 rfl rfl
theorem dX11_cover_25 : decode cX11_cover 25 = .ok (.aload_n 0, 1) := dec_0 oX11_cover (of42 _) rfl
theorem dX11_cover_26 : decode cX11_cover 26 = .ok (.getfield 74, 3) := dec_2 oX11_cover (of180 _) 0 74 rfl rfl
theorem dX11_cover_29 : decode cX11_cover 29 = .ok (.iload_n 2, 1) := dec_0 oX11_cover (of28 _) rfl
theorem dX11_cover_30 : decode cX11_cover 30 = .ok (.aload_n 0, 1) := dec_0 oX11_cover (of42 _) rfl
theorem dX11_cover_31 : decode cX11_cover 31 = .ok (.getfield 35, 3) := dec_2 oX11_cover (of180 _) 0 35 rfl rfl
theorem dX11_cover_34 : decode cX11_cover 34 = .ok (.iload_n 1, 1) := dec_0 oX11_cover (of27 _) rfl
theorem dX11_cover_35 : decode cX11_cover 35 = .ok (.invokevirtual 254, 3) := dec_2 oX11_cover (of182 _) 0 254 rfl rfl
theorem dX11_cover_38 : decode cX11_cover 38 = .ok (.invokevirtual 296, 3) := dec_2 oX11_cover (of182 _) 1 40 rfl rfl
theorem dX11_cover_41 : decode cX11_cover 41 = .ok (.ireturn, 1) := dec_0 oX11_cover (of172 _) rfl
theorem dX11_needs_12 : decode cX11_needs 12 = .ok (.aload_n 0, 1) := dec_0 oX11_needs (of42 _) rfl
theorem dX11_needs_13 : decode cX11_needs 13 = .ok (.getfield 74, 3) := dec_2 oX11_needs (of180 _) 0 74 rfl rfl
theorem dX11_needs_16 : decode cX11_needs 16 = .ok (.iload_n 1, 1) := dec_0 oX11_needs (of27 _) rfl
theorem dX11_needs_17 : decode cX11_needs 17 = .ok (.iload_n 2, 1) := dec_0 oX11_needs (of28 _) rfl
theorem dX11_needs_18 : decode cX11_needs 18 = .ok (.invokevirtual 302, 3) := dec_2 oX11_needs (of182 _) 1 46 rfl rfl
theorem dX11_needs_21 : decode cX11_needs 21 = .ok (.goto 4, 3) := dec_s2 oX11_needs (of167 _) 0 4 rfl (sg16p rfl) rfl
theorem dX11_rank_14 : decode cX11_rank 14 = .ok (.aload_n 0, 1) := dec_0 oX11_rank (of42 _) rfl
theorem dX11_rank_15 : decode cX11_rank 15 = .ok (.getfield 74, 3) := dec_2 oX11_rank (of180 _) 0 74 rfl rfl
theorem dX11_rank_18 : decode cX11_rank 18 = .ok (.iload_n 1, 1) := dec_0 oX11_rank (of27 _) rfl
theorem dX11_rank_19 : decode cX11_rank 19 = .ok (.invokevirtual 305, 3) := dec_2 oX11_rank (of182 _) 1 49 rfl rfl
theorem dX11_rank_22 : decode cX11_rank 22 = .ok (.aload_n 0, 1) := dec_0 oX11_rank (of42 _) rfl
theorem dX11_rank_23 : decode cX11_rank 23 = .ok (.getfield 74, 3) := dec_2 oX11_rank (of180 _) 0 74 rfl rfl
theorem dX11_rank_26 : decode cX11_rank 26 = .ok (.iload_n 2, 1) := dec_0 oX11_rank (of28 _) rfl
theorem dX11_rank_27 : decode cX11_rank 27 = .ok (.invokevirtual 308, 3) := dec_2 oX11_rank (of182 _) 1 52 rfl rfl
theorem dX11_rank_30 : decode cX11_rank 30 = .ok (.ireturn, 1) := dec_0 oX11_rank (of172 _) rfl
theorem dX11_kth_26 : decode cX11_kth 26 = .ok (.aload_n 0, 1) := dec_0 oX11_kth (of42 _) rfl
theorem dX11_kth_27 : decode cX11_kth 27 = .ok (.getfield 74, 3) := dec_2 oX11_kth (of180 _) 0 74 rfl rfl
theorem dX11_kth_30 : decode cX11_kth 30 = .ok (.iload_n 1, 1) := dec_0 oX11_kth (of27 _) rfl
theorem dX11_kth_31 : decode cX11_kth 31 = .ok (.invokevirtual 305, 3) := dec_2 oX11_kth (of182 _) 1 49 rfl rfl
theorem dX11_kth_34 : decode cX11_kth 34 = .ok (.aload_n 0, 1) := dec_0 oX11_kth (of42 _) rfl
theorem dX11_kth_35 : decode cX11_kth 35 = .ok (.getfield 74, 3) := dec_2 oX11_kth (of180 _) 0 74 rfl rfl
theorem dX11_kth_38 : decode cX11_kth 38 = .ok (.iload_n 2, 1) := dec_0 oX11_kth (of28 _) rfl
theorem dX11_kth_39 : decode cX11_kth 39 = .ok (.invokevirtual 311, 3) := dec_2 oX11_kth (of182 _) 1 55 rfl rfl
theorem dX11_kth_42 : decode cX11_kth 42 = .ok (.istore 4, 2) := dec_1 oX11_kth (of54 _) 4 rfl rfl
theorem dX11_kth_44 : decode cX11_kth 44 = .ok (.iload_n 3, 1) := dec_0 oX11_kth (of29 _) rfl
theorem dX11_kth_45 : decode cX11_kth 45 = .ok (.ifCond .ne 8, 3) := dec_s2 oX11_kth (of154 _) 0 8 rfl (sg16p rfl) rfl
theorem dX11_kth_48 : decode cX11_kth 48 = .ok (.iload 4, 2) := dec_1 oX11_kth (of21 _) 4 rfl rfl
theorem dX11_kth_50 : decode cX11_kth 50 = .ok (.goto 12, 3) := dec_s2 oX11_kth (of167 _) 0 12 rfl (sg16p rfl) rfl
theorem dX11_kth_53 : decode cX11_kth 53 = .ok (.aload_n 0, 1) := dec_0 oX11_kth (of42 _) rfl
theorem dX11_kth_54 : decode cX11_kth 54 = .ok (.getfield 74, 3) := dec_2 oX11_kth (of180 _) 0 74 rfl rfl
theorem dX11_kth_57 : decode cX11_kth 57 = .ok (.iload 4, 2) := dec_1 oX11_kth (of21 _) 4 rfl rfl
theorem dX11_kth_59 : decode cX11_kth 59 = .ok (.invokevirtual 314, 3) := dec_2 oX11_kth (of182 _) 1 58 rfl rfl
theorem dX11_kth_62 : decode cX11_kth 62 = .ok (.ireturn, 1) := dec_0 oX11_kth (of172 _) rfl
theorem dX11_slack_11 : decode cX11_slack 11 = .ok (.aload_n 0, 1) := dec_0 oX11_slack (of42 _) rfl
theorem dX11_slack_12 : decode cX11_slack 12 = .ok (.getfield 74, 3) := dec_2 oX11_slack (of180 _) 0 74 rfl rfl
theorem dX11_slack_15 : decode cX11_slack 15 = .ok (.iload_n 1, 1) := dec_0 oX11_slack (of27 _) rfl
theorem dX11_slack_16 : decode cX11_slack 16 = .ok (.invokevirtual 317, 3) := dec_2 oX11_slack (of182 _) 1 61 rfl rfl
theorem dX11_slack_19 : decode cX11_slack 19 = .ok (.goto 4, 3) := dec_s2 oX11_slack (of167 _) 0 4 rfl (sg16p rfl) rfl
theorem dX11_turns_13 : decode cX11_turns 13 = .ok (.aload_n 0, 1) := dec_0 oX11_turns (of42 _) rfl
theorem dX11_turns_14 : decode cX11_turns 14 = .ok (.getfield 74, 3) := dec_2 oX11_turns (of180 _) 0 74 rfl rfl
theorem dX11_turns_17 : decode cX11_turns 17 = .ok (.iload_n 1, 1) := dec_0 oX11_turns (of27 _) rfl
theorem dX11_turns_18 : decode cX11_turns 18 = .ok (.invokevirtual 305, 3) := dec_2 oX11_turns (of182 _) 1 49 rfl rfl
theorem dX11_turns_21 : decode cX11_turns 21 = .ok (.aload_n 0, 1) := dec_0 oX11_turns (of42 _) rfl
theorem dX11_turns_22 : decode cX11_turns 22 = .ok (.getfield 74, 3) := dec_2 oX11_turns (of180 _) 0 74 rfl rfl
theorem dX11_turns_25 : decode cX11_turns 25 = .ok (.invokevirtual 320, 3) := dec_2 oX11_turns (of182 _) 1 64 rfl rfl
theorem dX11_turns_28 : decode cX11_turns 28 = .ok (.ireturn, 1) := dec_0 oX11_turns (of172 _) rfl
theorem dX11_near_30 : decode cX11_near 30 = .ok (.aload_n 0, 1) := dec_0 oX11_near (of42 _) rfl
theorem dX11_near_31 : decode cX11_near 31 = .ok (.getfield 81, 3) := dec_2 oX11_near (of180 _) 0 81 rfl rfl
theorem dX11_near_34 : decode cX11_near 34 = .ok (.iload_n 1, 1) := dec_0 oX11_near (of27 _) rfl
theorem dX11_near_35 : decode cX11_near 35 = .ok (.iload_n 2, 1) := dec_0 oX11_near (of28 _) rfl
theorem dX11_near_36 : decode cX11_near 36 = .ok (.invokevirtual 323, 3) := dec_2 oX11_near (of182 _) 1 67 rfl rfl
theorem dX11_near_39 : decode cX11_near 39 = .ok (.iload_n 3, 1) := dec_0 oX11_near (of29 _) rfl
theorem dX11_near_40 : decode cX11_near 40 = .ok (.ifCond .ne 13, 3) := dec_s2 oX11_near (of154 _) 0 13 rfl (sg16p rfl) rfl
theorem dX11_near_43 : decode cX11_near 43 = .ok (.aload_n 0, 1) := dec_0 oX11_near (of42 _) rfl
theorem dX11_near_44 : decode cX11_near 44 = .ok (.getfield 81, 3) := dec_2 oX11_near (of180 _) 0 81 rfl rfl
theorem dX11_near_47 : decode cX11_near 47 = .ok (.getfield 326, 3) := dec_2 oX11_near (of180 _) 1 70 rfl rfl
theorem dX11_near_50 : decode cX11_near 50 = .ok (.goto 10, 3) := dec_s2 oX11_near (of167 _) 0 10 rfl (sg16p rfl) rfl
theorem dX11_near_53 : decode cX11_near 53 = .ok (.aload_n 0, 1) := dec_0 oX11_near (of42 _) rfl
theorem dX11_near_54 : decode cX11_near 54 = .ok (.getfield 81, 3) := dec_2 oX11_near (of180 _) 0 81 rfl rfl
theorem dX11_near_57 : decode cX11_near 57 = .ok (.getfield 329, 3) := dec_2 oX11_near (of180 _) 1 73 rfl rfl
theorem dX11_near_60 : decode cX11_near 60 = .ok (.ireturn, 1) := dec_0 oX11_near (of172 _) rfl
theorem dX11_whole_23 : decode cX11_whole 23 = .ok (.iload_n 1, 1) := dec_0 oX11_whole (of27 _) rfl
theorem dX11_whole_24 : decode cX11_whole 24 = .ok (.ifCond .ne 5, 3) := dec_s2 oX11_whole (of154 _) 0 5 rfl (sg16p rfl) rfl
theorem dX11_whole_29 : decode cX11_whole 29 = .ok (.aload_n 0, 1) := dec_0 oX11_whole (of42 _) rfl
theorem dX11_whole_30 : decode cX11_whole 30 = .ok (.getfield 28, 3) := dec_2 oX11_whole (of180 _) 0 28 rfl rfl
theorem dX11_whole_33 : decode cX11_whole 33 = .ok (.iload_n 2, 1) := dec_0 oX11_whole (of28 _) rfl
theorem dX11_whole_34 : decode cX11_whole 34 = .ok (.invokevirtual 359, 3) := dec_2 oX11_whole (of182 _) 1 103 rfl rfl
theorem dX11_whole_37 : decode cX11_whole 37 = .ok (.ireturn, 1) := dec_0 oX11_whole (of172 _) rfl
theorem dX11_restore_27 : decode cX11_restore 27 = .ok (.aload_n 0, 1) := dec_0 oX11_restore (of42 _) rfl
theorem dX11_restore_28 : decode cX11_restore 28 = .ok (.aload_n 0, 1) := dec_0 oX11_restore (of42 _) rfl
theorem dX11_restore_29 : decode cX11_restore 29 = .ok (.getfield 56, 3) := dec_2 oX11_restore (of180 _) 0 56 rfl rfl
theorem dX11_restore_32 : decode cX11_restore 32 = .ok (.iload_n 1, 1) := dec_0 oX11_restore (of27 _) rfl
theorem dX11_restore_33 : decode cX11_restore 33 = .ok (.aaload, 1) := dec_0 oX11_restore (of50 _) rfl
theorem dX11_restore_34 : decode cX11_restore 34 = .ok (.invokevirtual 106, 3) := dec_2 oX11_restore (of182 _) 0 106 rfl rfl
theorem dX11_restore_37 : decode cX11_restore 37 = .ok (.iconst 1, 1) := dec_0 oX11_restore (of4 _) rfl
theorem dX11_restore_38 : decode cX11_restore 38 = .ok (.ireturn, 1) := dec_0 oX11_restore (of172 _) rfl
theorem dX11_slotsHeld_25 : decode cX11_slotsHeld 25 = .ok (.iinc 1 1, 3) := dec_ii oX11_slotsHeld (of132 _) 1 1 rfl (sg8p rfl) rfl
theorem dX12_feed_13 : decode cX12_feed 13 = .ok (.iconst (-1), 1) := dec_0 oX12_feed (of2 _) rfl
theorem dX12_feed_14 : decode cX12_feed 14 = .ok (.ireturn, 1) := dec_0 oX12_feed (of172 _) rfl
theorem dX12_byteAt_8 : decode cX12_byteAt 8 = .ok (.aload_n 0, 1) := dec_0 oX12_byteAt (of42 _) rfl
theorem dX12_byteAt_9 : decode cX12_byteAt 9 = .ok (.getfield 17, 3) := dec_2 oX12_byteAt (of180 _) 0 17 rfl rfl
theorem dX12_byteAt_12 : decode cX12_byteAt 12 = .ok (.iload_n 1, 1) := dec_0 oX12_byteAt (of27 _) rfl
theorem dX12_byteAt_13 : decode cX12_byteAt 13 = .ok (.baload, 1) := dec_0 oX12_byteAt (of51 _) rfl
theorem dX12_byteAt_14 : decode cX12_byteAt 14 = .ok (.sipush 255, 3) := dec_s2 oX12_byteAt (of17 _) 0 255 rfl (sg16p rfl) rfl
theorem dX12_byteAt_17 : decode cX12_byteAt 17 = .ok (.iand, 1) := dec_0 oX12_byteAt (of126 _) rfl
theorem dX12_byteAt_18 : decode cX12_byteAt 18 = .ok (.goto 4, 3) := dec_s2 oX12_byteAt (of167 _) 0 4 rfl (sg16p rfl) rfl
theorem dX12_isDigit_0 : decode cX12_isDigit 0 = .ok (.iload_n 0, 1) := dec_0 oX12_isDigit (of26 _) rfl
theorem dX12_isDigit_1 : decode cX12_isDigit 1 = .ok (.bipush 48, 2) := dec_s1 oX12_isDigit (of16 _) 48 rfl (sg8p rfl) rfl
theorem dX12_isDigit_3 : decode cX12_isDigit 3 = .ok (.if_icmp .lt 13, 3) := dec_s2 oX12_isDigit (of161 _) 0 13 rfl (sg16p rfl) rfl
theorem dX12_isDigit_6 : decode cX12_isDigit 6 = .ok (.iload_n 0, 1) := dec_0 oX12_isDigit (of26 _) rfl
theorem dX12_isDigit_7 : decode cX12_isDigit 7 = .ok (.bipush 57, 2) := dec_s1 oX12_isDigit (of16 _) 57 rfl (sg8p rfl) rfl
theorem dX12_isDigit_9 : decode cX12_isDigit 9 = .ok (.if_icmp .gt 7, 3) := dec_s2 oX12_isDigit (of163 _) 0 7 rfl (sg16p rfl) rfl
theorem dX12_isDigit_12 : decode cX12_isDigit 12 = .ok (.iconst 1, 1) := dec_0 oX12_isDigit (of4 _) rfl
theorem dX12_isDigit_13 : decode cX12_isDigit 13 = .ok (.goto 4, 3) := dec_s2 oX12_isDigit (of167 _) 0 4 rfl (sg16p rfl) rfl
theorem dX12_isDigit_16 : decode cX12_isDigit 16 = .ok (.iconst 0, 1) := dec_0 oX12_isDigit (of3 _) rfl
theorem dX12_isDigit_17 : decode cX12_isDigit 17 = .ok (.ireturn, 1) := dec_0 oX12_isDigit (of172 _) rfl
theorem dX12_isLetter_0 : decode cX12_isLetter 0 = .ok (.iload_n 0, 1) := dec_0 oX12_isLetter (of26 _) rfl
theorem dX12_isLetter_1 : decode cX12_isLetter 1 = .ok (.bipush 97, 2) := dec_s1 oX12_isLetter (of16 _) 97 rfl (sg8p rfl) rfl
theorem dX12_isLetter_3 : decode cX12_isLetter 3 = .ok (.if_icmp .lt 13, 3) := dec_s2 oX12_isLetter (of161 _) 0 13 rfl (sg16p rfl) rfl
theorem dX12_isLetter_6 : decode cX12_isLetter 6 = .ok (.iload_n 0, 1) := dec_0 oX12_isLetter (of26 _) rfl
theorem dX12_isLetter_7 : decode cX12_isLetter 7 = .ok (.bipush 122, 2) := dec_s1 oX12_isLetter (of16 _) 122 rfl (sg8p rfl) rfl
theorem dX12_isLetter_9 : decode cX12_isLetter 9 = .ok (.if_icmp .gt 7, 3) := dec_s2 oX12_isLetter (of163 _) 0 7 rfl (sg16p rfl) rfl
theorem dX12_isLetter_12 : decode cX12_isLetter 12 = .ok (.iconst 1, 1) := dec_0 oX12_isLetter (of4 _) rfl
theorem dX12_isLetter_13 : decode cX12_isLetter 13 = .ok (.goto 4, 3) := dec_s2 oX12_isLetter (of167 _) 0 4 rfl (sg16p rfl) rfl
theorem dX12_isLetter_16 : decode cX12_isLetter 16 = .ok (.iconst 0, 1) := dec_0 oX12_isLetter (of3 _) rfl
theorem dX12_isLetter_17 : decode cX12_isLetter 17 = .ok (.ireturn, 1) := dec_0 oX12_isLetter (of172 _) rfl
theorem dX12_cut_43 : decode cX12_cut 43 = .ok (.iload_n 2, 1) := dec_0 oX12_cut (of28 _) rfl
theorem dX12_cut_44 : decode cX12_cut 44 = .ok (.bipush 9, 2) := dec_s1 oX12_cut (of16 _) 9 rfl (sg8p rfl) rfl
theorem dX12_cut_46 : decode cX12_cut 46 = .ok (.if_icmp .eq 21, 3) := dec_s2 oX12_cut (of159 _) 0 21 rfl (sg16p rfl) rfl
theorem dX12_cut_49 : decode cX12_cut 49 = .ok (.iload_n 2, 1) := dec_0 oX12_cut (of28 _) rfl
theorem dX12_cut_50 : decode cX12_cut 50 = .ok (.bipush 10, 2) := dec_s1 oX12_cut (of16 _) 10 rfl (sg8p rfl) rfl
theorem dX12_cut_52 : decode cX12_cut 52 = .ok (.if_icmp .eq 15, 3) := dec_s2 oX12_cut (of159 _) 0 15 rfl (sg16p rfl) rfl
theorem dX12_cut_55 : decode cX12_cut 55 = .ok (.iload_n 2, 1) := dec_0 oX12_cut (of28 _) rfl
theorem dX12_cut_56 : decode cX12_cut 56 = .ok (.bipush 13, 2) := dec_s1 oX12_cut (of16 _) 13 rfl (sg8p rfl) rfl
theorem dX12_cut_58 : decode cX12_cut 58 = .ok (.if_icmp .eq 9, 3) := dec_s2 oX12_cut (of159 _) 0 9 rfl (sg16p rfl) rfl
theorem dX12_cut_61 : decode cX12_cut 61 = .ok (.iload_n 2, 1) := dec_0 oX12_cut (of28 _) rfl
theorem dX12_cut_62 : decode cX12_cut 62 = .ok (.bipush 32, 2) := dec_s1 oX12_cut (of16 _) 32 rfl (sg8p rfl) rfl
theorem dX12_cut_64 : decode cX12_cut 64 = .ok (.if_icmp .ne 9, 3) := dec_s2 oX12_cut (of160 _) 0 9 rfl (sg16p rfl) rfl
theorem dX12_cut_67 : decode cX12_cut 67 = .ok (.iinc 1 1, 3) := dec_ii oX12_cut (of132 _) 1 1 rfl (sg8p rfl) rfl
theorem dX12_cut_70 : decode cX12_cut 70 = .ok (.goto 221, 3) := dec_s2 oX12_cut (of167 _) 0 221 rfl (sg16p rfl) rfl
theorem dX12_cut_73 : decode cX12_cut 73 = .ok (.iload_n 2, 1) := dec_0 oX12_cut (of28 _) rfl
theorem dX12_cut_74 : decode cX12_cut 74 = .ok (.invokestatic 150, 3) := dec_2 oX12_cut (of184 _) 0 150 rfl rfl
theorem dX12_cut_77 : decode cX12_cut 77 = .ok (.ifCond .eq 119, 3) := dec_s2 oX12_cut (of153 _) 0 119 rfl (sg16p rfl) rfl
theorem dX12_cut_80 : decode cX12_cut 80 = .ok (.iconst 0, 1) := dec_0 oX12_cut (of3 _) rfl
theorem dX12_cut_81 : decode cX12_cut 81 = .ok (.istore_n 3, 1) := dec_0 oX12_cut (of62 _) rfl
theorem dX12_cut_82 : decode cX12_cut 82 = .ok (.lconst 0, 1) := dec_0 oX12_cut (of9 _) rfl
theorem dX12_cut_83 : decode cX12_cut 83 = .ok (.lstore 4, 2) := dec_1 oX12_cut (of55 _) 4 rfl rfl
theorem dX12_cut_85 : decode cX12_cut 85 = .ok (.aload_n 0, 1) := dec_0 oX12_cut (of42 _) rfl
theorem dX12_cut_86 : decode cX12_cut 86 = .ok (.iload_n 1, 1) := dec_0 oX12_cut (of27 _) rfl
theorem dX12_cut_87 : decode cX12_cut 87 = .ok (.iload_n 3, 1) := dec_0 oX12_cut (of29 _) rfl
theorem dX12_cut_88 : decode cX12_cut 88 = .ok (.iadd, 1) := dec_0 oX12_cut (of96 _) rfl
theorem dX12_cut_89 : decode cX12_cut 89 = .ok (.invokevirtual 142, 3) := dec_2 oX12_cut (of182 _) 0 142 rfl rfl
theorem dX12_cut_92 : decode cX12_cut 92 = .ok (.invokestatic 150, 3) := dec_2 oX12_cut (of184 _) 0 150 rfl rfl
theorem dX12_cut_95 : decode cX12_cut 95 = .ok (.ifCond .eq 29, 3) := dec_s2 oX12_cut (of153 _) 0 29 rfl (sg16p rfl) rfl
theorem dX12_cut_98 : decode cX12_cut 98 = .ok (.iload_n 3, 1) := dec_0 oX12_cut (of29 _) rfl
theorem dX12_cut_99 : decode cX12_cut 99 = .ok (.bipush 8, 2) := dec_s1 oX12_cut (of16 _) 8 rfl (sg8p rfl) rfl
theorem dX12_cut_101 : decode cX12_cut 101 = .ok (.if_icmp .ge 17, 3) := dec_s2 oX12_cut (of162 _) 0 17 rfl (sg16p rfl) rfl
theorem dX12_cut_104 : decode cX12_cut 104 = .ok (.lload 4, 2) := dec_1 oX12_cut (of22 _) 4 rfl rfl
theorem dX12_cut_106 : decode cX12_cut 106 = .ok (.aload_n 0, 1) := dec_0 oX12_cut (of42 _) rfl
theorem dX12_cut_107 : decode cX12_cut 107 = .ok (.iload_n 1, 1) := dec_0 oX12_cut (of27 _) rfl
theorem dX12_cut_108 : decode cX12_cut 108 = .ok (.iload_n 3, 1) := dec_0 oX12_cut (of29 _) rfl
theorem dX12_cut_109 : decode cX12_cut 109 = .ok (.iadd, 1) := dec_0 oX12_cut (of96 _) rfl
theorem dX12_cut_110 : decode cX12_cut 110 = .ok (.invokevirtual 142, 3) := dec_2 oX12_cut (of182 _) 0 142 rfl rfl
theorem dX12_cut_113 : decode cX12_cut 113 = .ok (.invokestatic 135, 3) := dec_2 oX12_cut (of184 _) 0 135 rfl rfl
theorem dX12_cut_116 : decode cX12_cut 116 = .ok (.lstore 4, 2) := dec_1 oX12_cut (of55 _) 4 rfl rfl
theorem dX12_cut_118 : decode cX12_cut 118 = .ok (.iinc 3 1, 3) := dec_ii oX12_cut (of132 _) 3 1 rfl (sg8p rfl) rfl
theorem dX12_cut_121 : decode cX12_cut 121 = .ok (.goto (-36), 3) := dec_s2 oX12_cut (of167 _) 255 220 rfl (sg16n (k := 36) rfl) rfl
theorem dX12_cut_124 : decode cX12_cut 124 = .ok (.iload_n 3, 1) := dec_0 oX12_cut (of29 _) rfl
theorem dX12_cut_125 : decode cX12_cut 125 = .ok (.bipush 8, 2) := dec_s1 oX12_cut (of16 _) 8 rfl (sg8p rfl) rfl
theorem dX12_cut_127 : decode cX12_cut 127 = .ok (.if_icmp .le 7, 3) := dec_s2 oX12_cut (of164 _) 0 7 rfl (sg16p rfl) rfl
theorem dX12_cut_130 : decode cX12_cut 130 = .ok (.iconst 3, 1) := dec_0 oX12_cut (of6 _) rfl
theorem dX12_cut_131 : decode cX12_cut 131 = .ok (.goto 4, 3) := dec_s2 oX12_cut (of167 _) 0 4 rfl (sg16p rfl) rfl
theorem dX12_cut_134 : decode cX12_cut 134 = .ok (.iconst 1, 1) := dec_0 oX12_cut (of4 _) rfl
theorem dX12_cut_135 : decode cX12_cut 135 = .ok (.istore 6, 2) := dec_1 oX12_cut (of54 _) 6 rfl rfl
theorem dX12_cut_137 : decode cX12_cut 137 = .ok (.iload_n 3, 1) := dec_0 oX12_cut (of29 _) rfl
theorem dX12_cut_138 : decode cX12_cut 138 = .ok (.bipush 8, 2) := dec_s1 oX12_cut (of16 _) 8 rfl (sg8p rfl) rfl
theorem dX12_cut_140 : decode cX12_cut 140 = .ok (.if_icmp .gt 39, 3) := dec_s2 oX12_cut (of163 _) 0 39 rfl (sg16p rfl) rfl
theorem dX12_cut_143 : decode cX12_cut 143 = .ok (.iconst 0, 1) := dec_0 oX12_cut (of3 _) rfl
theorem dX12_cut_144 : decode cX12_cut 144 = .ok (.istore 7, 2) := dec_1 oX12_cut (of54 _) 7 rfl rfl
theorem dX12_cut_146 : decode cX12_cut 146 = .ok (.iload 7, 2) := dec_1 oX12_cut (of21 _) 7 rfl rfl
theorem dX12_cut_148 : decode cX12_cut 148 = .ok (.bipush 13, 2) := dec_s1 oX12_cut (of16 _) 13 rfl (sg8p rfl) rfl
theorem dX12_cut_150 : decode cX12_cut 150 = .ok (.if_icmp .ge 29, 3) := dec_s2 oX12_cut (of162 _) 0 29 rfl (sg16p rfl) rfl
theorem dX12_cut_153 : decode cX12_cut 153 = .ok (.aload_n 0, 1) := dec_0 oX12_cut (of42 _) rfl
theorem dX12_cut_154 : decode cX12_cut 154 = .ok (.getfield 34, 3) := dec_2 oX12_cut (of180 _) 0 34 rfl rfl
theorem dX12_cut_157 : decode cX12_cut 157 = .ok (.iload 7, 2) := dec_1 oX12_cut (of21 _) 7 rfl rfl
theorem dX12_cut_159 : decode cX12_cut 159 = .ok (.laload, 1) := dec_0 oX12_cut (of47 _) rfl
theorem dX12_cut_160 : decode cX12_cut 160 = .ok (.lload 4, 2) := dec_1 oX12_cut (of22 _) 4 rfl rfl
theorem dX12_cut_162 : decode cX12_cut 162 = .ok (.lcmp, 1) := dec_0 oX12_cut (of148 _) rfl
theorem dX12_cut_163 : decode cX12_cut 163 = .ok (.ifCond .ne 10, 3) := dec_s2 oX12_cut (of154 _) 0 10 rfl (sg16p rfl) rfl
theorem dX12_cut_166 : decode cX12_cut 166 = .ok (.bipush 20, 2) := dec_s1 oX12_cut (of16 _) 20 rfl (sg8p rfl) rfl
theorem dX12_cut_168 : decode cX12_cut 168 = .ok (.iload 7, 2) := dec_1 oX12_cut (of21 _) 7 rfl rfl
theorem dX12_cut_170 : decode cX12_cut 170 = .ok (.iadd, 1) := dec_0 oX12_cut (of96 _) rfl
theorem dX12_cut_171 : decode cX12_cut 171 = .ok (.istore 6, 2) := dec_1 oX12_cut (of54 _) 6 rfl rfl
theorem dX12_cut_173 : decode cX12_cut 173 = .ok (.iinc 7 1, 3) := dec_ii oX12_cut (of132 _) 7 1 rfl (sg8p rfl) rfl
theorem dX12_cut_176 : decode cX12_cut 176 = .ok (.goto (-30), 3) := dec_s2 oX12_cut (of167 _) 255 226 rfl (sg16n (k := 30) rfl) rfl
theorem dX12_cut_179 : decode cX12_cut 179 = .ok (.aload_n 0, 1) := dec_0 oX12_cut (of42 _) rfl
theorem dX12_cut_180 : decode cX12_cut 180 = .ok (.iload 6, 2) := dec_1 oX12_cut (of21 _) 6 rfl rfl
theorem dX12_cut_182 : decode cX12_cut 182 = .ok (.iload_n 1, 1) := dec_0 oX12_cut (of27 _) rfl
theorem dX12_cut_183 : decode cX12_cut 183 = .ok (.iconst 0, 1) := dec_0 oX12_cut (of3 _) rfl
theorem dX12_cut_184 : decode cX12_cut 184 = .ok (.lload 4, 2) := dec_1 oX12_cut (of22 _) 4 rfl rfl
theorem dX12_cut_186 : decode cX12_cut 186 = .ok (.invokevirtual 146, 3) := dec_2 oX12_cut (of182 _) 0 146 rfl rfl
theorem dX12_cut_189 : decode cX12_cut 189 = .ok (.iload_n 1, 1) := dec_0 oX12_cut (of27 _) rfl
theorem dX12_cut_190 : decode cX12_cut 190 = .ok (.iload_n 3, 1) := dec_0 oX12_cut (of29 _) rfl
theorem dX12_cut_191 : decode cX12_cut 191 = .ok (.iadd, 1) := dec_0 oX12_cut (of96 _) rfl
theorem dX12_cut_192 : decode cX12_cut 192 = .ok (.istore_n 1, 1) := dec_0 oX12_cut (of60 _) rfl
theorem dX12_cut_193 : decode cX12_cut 193 = .ok (.goto 98, 3) := dec_s2 oX12_cut (of167 _) 0 98 rfl (sg16p rfl) rfl
theorem dX12_cut_196 : decode cX12_cut 196 = .ok (.iload_n 2, 1) := dec_0 oX12_cut (of28 _) rfl
theorem dX12_cut_197 : decode cX12_cut 197 = .ok (.invokestatic 154, 3) := dec_2 oX12_cut (of184 _) 0 154 rfl rfl
theorem dX12_cut_200 : decode cX12_cut 200 = .ok (.ifCond .eq 75, 3) := dec_s2 oX12_cut (of153 _) 0 75 rfl (sg16p rfl) rfl
theorem dX12_cut_203 : decode cX12_cut 203 = .ok (.iconst 0, 1) := dec_0 oX12_cut (of3 _) rfl
theorem dX12_cut_204 : decode cX12_cut 204 = .ok (.istore_n 3, 1) := dec_0 oX12_cut (of62 _) rfl
theorem dX12_cut_205 : decode cX12_cut 205 = .ok (.iconst 0, 1) := dec_0 oX12_cut (of3 _) rfl
theorem dX12_cut_206 : decode cX12_cut 206 = .ok (.istore 4, 2) := dec_1 oX12_cut (of54 _) 4 rfl rfl
theorem dX12_cut_208 : decode cX12_cut 208 = .ok (.aload_n 0, 1) := dec_0 oX12_cut (of42 _) rfl
theorem dX12_cut_209 : decode cX12_cut 209 = .ok (.iload_n 1, 1) := dec_0 oX12_cut (of27 _) rfl
theorem dX12_cut_210 : decode cX12_cut 210 = .ok (.iload_n 3, 1) := dec_0 oX12_cut (of29 _) rfl
theorem dX12_cut_211 : decode cX12_cut 211 = .ok (.iadd, 1) := dec_0 oX12_cut (of96 _) rfl
theorem dX12_cut_212 : decode cX12_cut 212 = .ok (.invokevirtual 142, 3) := dec_2 oX12_cut (of182 _) 0 142 rfl rfl
theorem dX12_cut_215 : decode cX12_cut 215 = .ok (.invokestatic 154, 3) := dec_2 oX12_cut (of184 _) 0 154 rfl rfl
theorem dX12_cut_218 : decode cX12_cut 218 = .ok (.ifCond .eq 32, 3) := dec_s2 oX12_cut (of153 _) 0 32 rfl (sg16p rfl) rfl
theorem dX12_cut_221 : decode cX12_cut 221 = .ok (.iload_n 3, 1) := dec_0 oX12_cut (of29 _) rfl
theorem dX12_cut_222 : decode cX12_cut 222 = .ok (.iconst 4, 1) := dec_0 oX12_cut (of7 _) rfl
theorem dX12_cut_223 : decode cX12_cut 223 = .ok (.if_icmp .ge 21, 3) := dec_s2 oX12_cut (of162 _) 0 21 rfl (sg16p rfl) rfl
theorem dX12_cut_226 : decode cX12_cut 226 = .ok (.bipush 10, 2) := dec_s1 oX12_cut (of16 _) 10 rfl (sg8p rfl) rfl
theorem dX12_cut_228 : decode cX12_cut 228 = .ok (.iload 4, 2) := dec_1 oX12_cut (of21 _) 4 rfl rfl
theorem dX12_cut_230 : decode cX12_cut 230 = .ok (.imul, 1) := dec_0 oX12_cut (of104 _) rfl
theorem dX12_cut_231 : decode cX12_cut 231 = .ok (.aload_n 0, 1) := dec_0 oX12_cut (of42 _) rfl
theorem dX12_cut_232 : decode cX12_cut 232 = .ok (.iload_n 1, 1) := dec_0 oX12_cut (of27 _) rfl
theorem dX12_cut_233 : decode cX12_cut 233 = .ok (.iload_n 3, 1) := dec_0 oX12_cut (of29 _) rfl
theorem dX12_cut_234 : decode cX12_cut 234 = .ok (.iadd, 1) := dec_0 oX12_cut (of96 _) rfl
theorem dX12_cut_235 : decode cX12_cut 235 = .ok (.invokevirtual 142, 3) := dec_2 oX12_cut (of182 _) 0 142 rfl rfl
theorem dX12_cut_238 : decode cX12_cut 238 = .ok (.iadd, 1) := dec_0 oX12_cut (of96 _) rfl
theorem dX12_cut_239 : decode cX12_cut 239 = .ok (.bipush 48, 2) := dec_s1 oX12_cut (of16 _) 48 rfl (sg8p rfl) rfl
theorem dX12_cut_241 : decode cX12_cut 241 = .ok (.isub, 1) := dec_0 oX12_cut (of100 _) rfl
theorem dX12_cut_242 : decode cX12_cut 242 = .ok (.istore 4, 2) := dec_1 oX12_cut (of54 _) 4 rfl rfl
theorem dX12_cut_244 : decode cX12_cut 244 = .ok (.iinc 3 1, 3) := dec_ii oX12_cut (of132 _) 3 1 rfl (sg8p rfl) rfl
theorem dX12_cut_247 : decode cX12_cut 247 = .ok (.goto (-39), 3) := dec_s2 oX12_cut (of167 _) 255 217 rfl (sg16n (k := 39) rfl) rfl
theorem dX12_cut_250 : decode cX12_cut 250 = .ok (.aload_n 0, 1) := dec_0 oX12_cut (of42 _) rfl
theorem dX12_cut_251 : decode cX12_cut 251 = .ok (.iload_n 3, 1) := dec_0 oX12_cut (of29 _) rfl
theorem dX12_cut_252 : decode cX12_cut 252 = .ok (.iconst 4, 1) := dec_0 oX12_cut (of7 _) rfl
theorem dX12_cut_253 : decode cX12_cut 253 = .ok (.if_icmp .le 7, 3) := dec_s2 oX12_cut (of164 _) 0 7 rfl (sg16p rfl) rfl
theorem dX12_cut_256 : decode cX12_cut 256 = .ok (.iconst 3, 1) := dec_0 oX12_cut (of6 _) rfl
theorem dX12_cut_257 : decode cX12_cut 257 = .ok (.goto 4, 3) := dec_s2 oX12_cut (of167 _) 0 4 rfl (sg16p rfl) rfl
theorem dX12_cut_260 : decode cX12_cut 260 = .ok (.iconst 2, 1) := dec_0 oX12_cut (of5 _) rfl
theorem dX12_cut_261 : decode cX12_cut 261 = .ok (.iload_n 1, 1) := dec_0 oX12_cut (of27 _) rfl
theorem dX12_cut_262 : decode cX12_cut 262 = .ok (.iload 4, 2) := dec_1 oX12_cut (of21 _) 4 rfl rfl
theorem dX12_cut_264 : decode cX12_cut 264 = .ok (.lconst 0, 1) := dec_0 oX12_cut (of9 _) rfl
theorem dX12_cut_265 : decode cX12_cut 265 = .ok (.invokevirtual 146, 3) := dec_2 oX12_cut (of182 _) 0 146 rfl rfl
theorem dX12_cut_268 : decode cX12_cut 268 = .ok (.iload_n 1, 1) := dec_0 oX12_cut (of27 _) rfl
theorem dX12_cut_269 : decode cX12_cut 269 = .ok (.iload_n 3, 1) := dec_0 oX12_cut (of29 _) rfl
theorem dX12_cut_270 : decode cX12_cut 270 = .ok (.iadd, 1) := dec_0 oX12_cut (of96 _) rfl
theorem dX12_cut_271 : decode cX12_cut 271 = .ok (.istore_n 1, 1) := dec_0 oX12_cut (of60 _) rfl
theorem dX12_cut_272 : decode cX12_cut 272 = .ok (.goto 19, 3) := dec_s2 oX12_cut (of167 _) 0 19 rfl (sg16p rfl) rfl
theorem dX12_cut_275 : decode cX12_cut 275 = .ok (.iload_n 1, 1) := dec_0 oX12_cut (of27 _) rfl
theorem dX12_cut_276 : decode cX12_cut 276 = .ok (.aload_n 0, 1) := dec_0 oX12_cut (of42 _) rfl
theorem dX12_cut_277 : decode cX12_cut 277 = .ok (.iload_n 1, 1) := dec_0 oX12_cut (of27 _) rfl
theorem dX12_cut_278 : decode cX12_cut 278 = .ok (.iload_n 2, 1) := dec_0 oX12_cut (of28 _) rfl
theorem dX12_cut_279 : decode cX12_cut 279 = .ok (.aload_n 0, 1) := dec_0 oX12_cut (of42 _) rfl
theorem dX12_cut_280 : decode cX12_cut 280 = .ok (.iload_n 1, 1) := dec_0 oX12_cut (of27 _) rfl
theorem dX12_cut_281 : decode cX12_cut 281 = .ok (.iconst 1, 1) := dec_0 oX12_cut (of4 _) rfl
theorem dX12_cut_282 : decode cX12_cut 282 = .ok (.iadd, 1) := dec_0 oX12_cut (of96 _) rfl
theorem dX12_cut_283 : decode cX12_cut 283 = .ok (.invokevirtual 142, 3) := dec_2 oX12_cut (of182 _) 0 142 rfl rfl
theorem dX12_cut_286 : decode cX12_cut 286 = .ok (.invokevirtual 157, 3) := dec_2 oX12_cut (of182 _) 0 157 rfl rfl
theorem dX12_cut_289 : decode cX12_cut 289 = .ok (.iadd, 1) := dec_0 oX12_cut (of96 _) rfl
theorem dX12_cut_290 : decode cX12_cut 290 = .ok (.istore_n 1, 1) := dec_0 oX12_cut (of60 _) rfl
theorem dX12_cut_291 : decode cX12_cut 291 = .ok (.goto (-284), 3) := dec_s2 oX12_cut (of167 _) 254 228 rfl (sg16n (k := 284) rfl) rfl
theorem dX12_cut_294 : decode cX12_cut 294 = .ok (.return_, 1) := dec_0 oX12_cut (of177 _) rfl
theorem dX12_sign_0 : decode cX12_sign 0 = .ok (.aload_n 0, 1) := dec_0 oX12_sign (of42 _) rfl
theorem dX12_sign_1 : decode cX12_sign 1 = .ok (.iload_n 2, 1) := dec_0 oX12_sign (of28 _) rfl
theorem dX12_sign_2 : decode cX12_sign 2 = .ok (.bipush 59, 2) := dec_s1 oX12_sign (of16 _) 59 rfl (sg8p rfl) rfl
theorem dX12_sign_4 : decode cX12_sign 4 = .ok (.if_icmp .ne 7, 3) := dec_s2 oX12_sign (of160 _) 0 7 rfl (sg16p rfl) rfl
theorem dX12_sign_7 : decode cX12_sign 7 = .ok (.iconst 4, 1) := dec_0 oX12_sign (of7 _) rfl
theorem dX12_sign_8 : decode cX12_sign 8 = .ok (.goto 15, 3) := dec_s2 oX12_sign (of167 _) 0 15 rfl (sg16p rfl) rfl
theorem dX12_sign_11 : decode cX12_sign 11 = .ok (.iload_n 2, 1) := dec_0 oX12_sign (of28 _) rfl
theorem dX12_sign_12 : decode cX12_sign 12 = .ok (.bipush 45, 2) := dec_s1 oX12_sign (of16 _) 45 rfl (sg8p rfl) rfl
theorem dX12_sign_14 : decode cX12_sign 14 = .ok (.if_icmp .ne 8, 3) := dec_s2 oX12_sign (of160 _) 0 8 rfl (sg16p rfl) rfl
theorem dX12_sign_17 : decode cX12_sign 17 = .ok (.bipush 9, 2) := dec_s1 oX12_sign (of16 _) 9 rfl (sg8p rfl) rfl
theorem dX12_sign_19 : decode cX12_sign 19 = .ok (.goto 4, 3) := dec_s2 oX12_sign (of167 _) 0 4 rfl (sg16p rfl) rfl
theorem dX12_sign_22 : decode cX12_sign 22 = .ok (.iconst 3, 1) := dec_0 oX12_sign (of6 _) rfl
theorem dX12_sign_23 : decode cX12_sign 23 = .ok (.iload_n 1, 1) := dec_0 oX12_sign (of27 _) rfl
theorem dX12_sign_24 : decode cX12_sign 24 = .ok (.iconst 0, 1) := dec_0 oX12_sign (of3 _) rfl
theorem dX12_sign_25 : decode cX12_sign 25 = .ok (.lconst 0, 1) := dec_0 oX12_sign (of9 _) rfl
theorem dX12_sign_26 : decode cX12_sign 26 = .ok (.invokevirtual 146, 3) := dec_2 oX12_sign (of182 _) 0 146 rfl rfl
theorem dX12_sign_29 : decode cX12_sign 29 = .ok (.iconst 1, 1) := dec_0 oX12_sign (of4 _) rfl
theorem dX12_sign_30 : decode cX12_sign 30 = .ok (.ireturn, 1) := dec_0 oX12_sign (of172 _) rfl
theorem dX12_is_24 : decode cX12_is 24 = .ok (.iconst 0, 1) := dec_0 oX12_is (of3 _) rfl
theorem dX12_fail_0 : decode cX12_fail 0 = .ok (.aload_n 0, 1) := dec_0 oX12_fail (of42 _) rfl
theorem dX12_fail_1 : decode cX12_fail 1 = .ok (.getfield 161, 3) := dec_2 oX12_fail (of180 _) 0 161 rfl rfl
theorem dX12_fail_4 : decode cX12_fail 4 = .ok (.ifCond .le 4, 3) := dec_s2 oX12_fail (of158 _) 0 4 rfl (sg16p rfl) rfl
theorem dX12_fail_7 : decode cX12_fail 7 = .ok (.return_, 1) := dec_0 oX12_fail (of177 _) rfl
theorem dX12_fail_8 : decode cX12_fail 8 = .ok (.aload_n 0, 1) := dec_0 oX12_fail (of42 _) rfl
theorem dX12_fail_9 : decode cX12_fail 9 = .ok (.iload_n 1, 1) := dec_0 oX12_fail (of27 _) rfl
theorem dX12_fail_10 : decode cX12_fail 10 = .ok (.putfield 161, 3) := dec_2 oX12_fail (of181 _) 0 161 rfl rfl
theorem dX12_fail_13 : decode cX12_fail 13 = .ok (.aload_n 0, 1) := dec_0 oX12_fail (of42 _) rfl
theorem dX12_fail_14 : decode cX12_fail 14 = .ok (.aload_n 0, 1) := dec_0 oX12_fail (of42 _) rfl
theorem dX12_fail_15 : decode cX12_fail 15 = .ok (.getfield 24, 3) := dec_2 oX12_fail (of180 _) 0 24 rfl rfl
theorem dX12_fail_18 : decode cX12_fail 18 = .ok (.aload_n 0, 1) := dec_0 oX12_fail (of42 _) rfl
theorem dX12_fail_19 : decode cX12_fail 19 = .ok (.getfield 164, 3) := dec_2 oX12_fail (of180 _) 0 164 rfl rfl
theorem dX12_fail_22 : decode cX12_fail 22 = .ok (.iaload, 1) := dec_0 oX12_fail (of46 _) rfl
theorem dX12_fail_23 : decode cX12_fail 23 = .ok (.putfield 167, 3) := dec_2 oX12_fail (of181 _) 0 167 rfl rfl
theorem dX12_fail_26 : decode cX12_fail 26 = .ok (.aload_n 0, 1) := dec_0 oX12_fail (of42 _) rfl
theorem dX12_fail_27 : decode cX12_fail 27 = .ok (.aload_n 0, 1) := dec_0 oX12_fail (of42 _) rfl
theorem dX12_fail_28 : decode cX12_fail 28 = .ok (.getfield 170, 3) := dec_2 oX12_fail (of180 _) 0 170 rfl rfl
theorem dX12_fail_31 : decode cX12_fail 31 = .ok (.putfield 173, 3) := dec_2 oX12_fail (of181 _) 0 173 rfl rfl
theorem dX12_fail_34 : decode cX12_fail 34 = .ok (.return_, 1) := dec_0 oX12_fail (of177 _) rfl
theorem dX12_wrong_0 : decode cX12_wrong 0 = .ok (.aload_n 0, 1) := dec_0 oX12_wrong (of42 _) rfl
theorem dX12_wrong_1 : decode cX12_wrong 1 = .ok (.getfield 24, 3) := dec_2 oX12_wrong (of180 _) 0 24 rfl rfl
theorem dX12_wrong_4 : decode cX12_wrong 4 = .ok (.iload_n 2, 1) := dec_0 oX12_wrong (of28 _) rfl
theorem dX12_wrong_5 : decode cX12_wrong 5 = .ok (.iaload, 1) := dec_0 oX12_wrong (of46 _) rfl
theorem dX12_wrong_6 : decode cX12_wrong 6 = .ok (.istore_n 3, 1) := dec_0 oX12_wrong (of62 _) rfl
theorem dX12_wrong_7 : decode cX12_wrong 7 = .ok (.aload_n 0, 1) := dec_0 oX12_wrong (of42 _) rfl
theorem dX12_wrong_8 : decode cX12_wrong 8 = .ok (.getfield 161, 3) := dec_2 oX12_wrong (of180 _) 0 161 rfl rfl
theorem dX12_wrong_11 : decode cX12_wrong 11 = .ok (.ifCond .gt 34, 3) := dec_s2 oX12_wrong (of157 _) 0 34 rfl (sg16p rfl) rfl
theorem dX12_wrong_14 : decode cX12_wrong 14 = .ok (.aload_n 0, 1) := dec_0 oX12_wrong (of42 _) rfl
theorem dX12_wrong_15 : decode cX12_wrong 15 = .ok (.getfield 176, 3) := dec_2 oX12_wrong (of180 _) 0 176 rfl rfl
theorem dX12_wrong_18 : decode cX12_wrong 18 = .ok (.ifCond .eq 28, 3) := dec_s2 oX12_wrong (of153 _) 0 28 rfl (sg16p rfl) rfl
theorem dX12_wrong_21 : decode cX12_wrong 21 = .ok (.iload_n 3, 1) := dec_0 oX12_wrong (of29 _) rfl
theorem dX12_wrong_22 : decode cX12_wrong 22 = .ok (.aload_n 0, 1) := dec_0 oX12_wrong (of42 _) rfl
theorem dX12_wrong_23 : decode cX12_wrong 23 = .ok (.getfield 179, 3) := dec_2 oX12_wrong (of180 _) 0 179 rfl rfl
theorem dX12_wrong_26 : decode cX12_wrong 26 = .ok (.if_icmp .gt 19, 3) := dec_s2 oX12_wrong (of163 _) 0 19 rfl (sg16p rfl) rfl
theorem dX12_wrong_29 : decode cX12_wrong 29 = .ok (.iload_n 3, 1) := dec_0 oX12_wrong (of29 _) rfl
theorem dX12_wrong_30 : decode cX12_wrong 30 = .ok (.aload_n 0, 1) := dec_0 oX12_wrong (of42 _) rfl
theorem dX12_wrong_31 : decode cX12_wrong 31 = .ok (.getfield 179, 3) := dec_2 oX12_wrong (of180 _) 0 179 rfl rfl
theorem dX12_wrong_34 : decode cX12_wrong 34 = .ok (.if_icmp .ne 12, 3) := dec_s2 oX12_wrong (of160 _) 0 12 rfl (sg16p rfl) rfl
theorem dX12_wrong_37 : decode cX12_wrong 37 = .ok (.iload_n 1, 1) := dec_0 oX12_wrong (of27 _) rfl
theorem dX12_wrong_38 : decode cX12_wrong 38 = .ok (.aload_n 0, 1) := dec_0 oX12_wrong (of42 _) rfl
theorem dX12_wrong_39 : decode cX12_wrong 39 = .ok (.getfield 176, 3) := dec_2 oX12_wrong (of180 _) 0 176 rfl rfl
theorem dX12_wrong_42 : decode cX12_wrong 42 = .ok (.if_icmp .lt 4, 3) := dec_s2 oX12_wrong (of161 _) 0 4 rfl (sg16p rfl) rfl
theorem dX12_wrong_45 : decode cX12_wrong 45 = .ok (.return_, 1) := dec_0 oX12_wrong (of177 _) rfl
theorem dX12_wrong_46 : decode cX12_wrong 46 = .ok (.aload_n 0, 1) := dec_0 oX12_wrong (of42 _) rfl
theorem dX12_wrong_47 : decode cX12_wrong 47 = .ok (.iload_n 1, 1) := dec_0 oX12_wrong (of27 _) rfl
theorem dX12_wrong_48 : decode cX12_wrong 48 = .ok (.putfield 176, 3) := dec_2 oX12_wrong (of181 _) 0 176 rfl rfl
theorem dX12_wrong_51 : decode cX12_wrong 51 = .ok (.aload_n 0, 1) := dec_0 oX12_wrong (of42 _) rfl
theorem dX12_wrong_52 : decode cX12_wrong 52 = .ok (.iload_n 3, 1) := dec_0 oX12_wrong (of29 _) rfl
theorem dX12_wrong_53 : decode cX12_wrong 53 = .ok (.putfield 179, 3) := dec_2 oX12_wrong (of181 _) 0 179 rfl rfl
theorem dX12_wrong_56 : decode cX12_wrong 56 = .ok (.aload_n 0, 1) := dec_0 oX12_wrong (of42 _) rfl
theorem dX12_wrong_57 : decode cX12_wrong 57 = .ok (.aload_n 0, 1) := dec_0 oX12_wrong (of42 _) rfl
theorem dX12_wrong_58 : decode cX12_wrong 58 = .ok (.getfield 170, 3) := dec_2 oX12_wrong (of180 _) 0 170 rfl rfl
theorem dX12_wrong_61 : decode cX12_wrong 61 = .ok (.putfield 182, 3) := dec_2 oX12_wrong (of181 _) 0 182 rfl rfl
theorem dX12_wrong_64 : decode cX12_wrong 64 = .ok (.return_, 1) := dec_0 oX12_wrong (of177 _) rfl
theorem dX12_goesOn_0 : decode cX12_goesOn 0 = .ok (.aload_n 0, 1) := dec_0 oX12_goesOn (of42 _) rfl
theorem dX12_goesOn_1 : decode cX12_goesOn 1 = .ok (.getfield 164, 3) := dec_2 oX12_goesOn (of180 _) 0 164 rfl rfl
theorem dX12_goesOn_4 : decode cX12_goesOn 4 = .ok (.sipush 400, 3) := dec_s2 oX12_goesOn (of17 _) 1 144 rfl (sg16p rfl) rfl
theorem dX12_goesOn_7 : decode cX12_goesOn 7 = .ok (.if_icmp .ne 11, 3) := dec_s2 oX12_goesOn (of160 _) 0 11 rfl (sg16p rfl) rfl
theorem dX12_goesOn_10 : decode cX12_goesOn 10 = .ok (.aload_n 0, 1) := dec_0 oX12_goesOn (of42 _) rfl
theorem dX12_goesOn_11 : decode cX12_goesOn 11 = .ok (.iconst 2, 1) := dec_0 oX12_goesOn (of5 _) rfl
theorem dX12_goesOn_12 : decode cX12_goesOn 12 = .ok (.invokevirtual 185, 3) := dec_2 oX12_goesOn (of182 _) 0 185 rfl rfl
theorem dX12_goesOn_15 : decode cX12_goesOn 15 = .ok (.goto 13, 3) := dec_s2 oX12_goesOn (of167 _) 0 13 rfl (sg16p rfl) rfl
theorem dX12_goesOn_18 : decode cX12_goesOn 18 = .ok (.aload_n 0, 1) := dec_0 oX12_goesOn (of42 _) rfl
theorem dX12_goesOn_19 : decode cX12_goesOn 19 = .ok (.dup, 1) := dec_0 oX12_goesOn (of89 _) rfl
theorem dX12_goesOn_20 : decode cX12_goesOn 20 = .ok (.getfield 164, 3) := dec_2 oX12_goesOn (of180 _) 0 164 rfl rfl
theorem dX12_goesOn_23 : decode cX12_goesOn 23 = .ok (.iconst 1, 1) := dec_0 oX12_goesOn (of4 _) rfl
theorem dX12_goesOn_24 : decode cX12_goesOn 24 = .ok (.iadd, 1) := dec_0 oX12_goesOn (of96 _) rfl
theorem dX12_goesOn_25 : decode cX12_goesOn 25 = .ok (.putfield 164, 3) := dec_2 oX12_goesOn (of181 _) 0 164 rfl rfl
theorem dX12_goesOn_28 : decode cX12_goesOn 28 = .ok (.return_, 1) := dec_0 oX12_goesOn (of177 _) rfl
theorem dX12_must_0 : decode cX12_must 0 = .ok (.aload_n 0, 1) := dec_0 oX12_must (of42 _) rfl
theorem dX12_must_1 : decode cX12_must 1 = .ok (.iload_n 1, 1) := dec_0 oX12_must (of27 _) rfl
theorem dX12_must_2 : decode cX12_must 2 = .ok (.invokevirtual 188, 3) := dec_2 oX12_must (of182 _) 0 188 rfl rfl
theorem dX12_must_5 : decode cX12_must 5 = .ok (.ifCond .eq 10, 3) := dec_s2 oX12_must (of153 _) 0 10 rfl (sg16p rfl) rfl
theorem dX12_must_8 : decode cX12_must 8 = .ok (.aload_n 0, 1) := dec_0 oX12_must (of42 _) rfl
theorem dX12_must_9 : decode cX12_must 9 = .ok (.invokevirtual 191, 3) := dec_2 oX12_must (of182 _) 0 191 rfl rfl
theorem dX12_must_12 : decode cX12_must 12 = .ok (.goto 8, 3) := dec_s2 oX12_must (of167 _) 0 8 rfl (sg16p rfl) rfl
theorem dX12_must_15 : decode cX12_must 15 = .ok (.aload_n 0, 1) := dec_0 oX12_must (of42 _) rfl
theorem dX12_must_16 : decode cX12_must 16 = .ok (.iconst 1, 1) := dec_0 oX12_must (of4 _) rfl
theorem dX12_must_17 : decode cX12_must 17 = .ok (.invokevirtual 185, 3) := dec_2 oX12_must (of182 _) 0 185 rfl rfl
theorem dX12_must_20 : decode cX12_must 20 = .ok (.return_, 1) := dec_0 oX12_must (of177 _) rfl
theorem dX12_read_18 : decode cX12_read 18 = .ok (.aload_n 0, 1) := dec_0 oX12_read (of42 _) rfl
theorem dX12_read_19 : decode cX12_read 19 = .ok (.getfield 17, 3) := dec_2 oX12_read (of180 _) 0 17 rfl rfl
theorem dX12_read_22 : decode cX12_read 22 = .ok (.iload_n 1, 1) := dec_0 oX12_read (of27 _) rfl
theorem dX12_read_23 : decode cX12_read 23 = .ok (.aload_n 0, 1) := dec_0 oX12_read (of42 _) rfl
theorem dX12_read_24 : decode cX12_read 24 = .ok (.getfield 13, 3) := dec_2 oX12_read (of180 _) 0 13 rfl rfl
theorem dX12_read_27 : decode cX12_read 27 = .ok (.iload_n 1, 1) := dec_0 oX12_read (of27 _) rfl
theorem dX12_read_28 : decode cX12_read 28 = .ok (.baload, 1) := dec_0 oX12_read (of51 _) rfl
theorem dX12_read_29 : decode cX12_read 29 = .ok (.bastore, 1) := dec_0 oX12_read (of84 _) rfl
theorem dX12_read_30 : decode cX12_read 30 = .ok (.iinc 1 1, 3) := dec_ii oX12_read (of132 _) 1 1 rfl (sg8p rfl) rfl
theorem dX12_read_33 : decode cX12_read 33 = .ok (.goto (-23), 3) := dec_s2 oX12_read (of167 _) 255 233 rfl (sg16n (k := 23) rfl) rfl
theorem dX12_read_104 : decode cX12_read 104 = .ok (.aload_n 0, 1) := dec_0 oX12_read (of42 _) rfl
theorem dX12_read_105 : decode cX12_read 105 = .ok (.invokevirtual 206, 3) := dec_2 oX12_read (of182 _) 0 206 rfl rfl
theorem dX12_read_108 : decode cX12_read 108 = .ok (.goto (-19), 3) := dec_s2 oX12_read (of167 _) 255 237 rfl (sg16n (k := 19) rfl) rfl
theorem dX12_read_119 : decode cX12_read 119 = .ok (.aload_n 0, 1) := dec_0 oX12_read (of42 _) rfl
theorem dX12_read_120 : decode cX12_read 120 = .ok (.getfield 167, 3) := dec_2 oX12_read (of180 _) 0 167 rfl rfl
theorem dX12_read_123 : decode cX12_read 123 = .ok (.goto 18, 3) := dec_s2 oX12_read (of167 _) 0 18 rfl (sg16p rfl) rfl
theorem dX12_read_133 : decode cX12_read 133 = .ok (.aload_n 0, 1) := dec_0 oX12_read (of42 _) rfl
theorem dX12_read_134 : decode cX12_read 134 = .ok (.getfield 179, 3) := dec_2 oX12_read (of180 _) 0 179 rfl rfl
theorem dX12_read_137 : decode cX12_read 137 = .ok (.goto 4, 3) := dec_s2 oX12_read (of167 _) 0 4 rfl (sg16p rfl) rfl
theorem dX12_read_152 : decode cX12_read 152 = .ok (.aload_n 0, 1) := dec_0 oX12_read (of42 _) rfl
theorem dX12_read_153 : decode cX12_read 153 = .ok (.getfield 173, 3) := dec_2 oX12_read (of180 _) 0 173 rfl rfl
theorem dX12_read_156 : decode cX12_read 156 = .ok (.goto 18, 3) := dec_s2 oX12_read (of167 _) 0 18 rfl (sg16p rfl) rfl
theorem dX12_read_166 : decode cX12_read 166 = .ok (.aload_n 0, 1) := dec_0 oX12_read (of42 _) rfl
theorem dX12_read_167 : decode cX12_read 167 = .ok (.getfield 182, 3) := dec_2 oX12_read (of180 _) 0 182 rfl rfl
theorem dX12_read_170 : decode cX12_read 170 = .ok (.goto 4, 3) := dec_s2 oX12_read (of167 _) 0 4 rfl (sg16p rfl) rfl
theorem dX12_read_184 : decode cX12_read 184 = .ok (.aload_n 0, 1) := dec_0 oX12_read (of42 _) rfl
theorem dX12_read_185 : decode cX12_read 185 = .ok (.getfield 161, 3) := dec_2 oX12_read (of180 _) 0 161 rfl rfl
theorem dX12_read_188 : decode cX12_read 188 = .ok (.ireturn, 1) := dec_0 oX12_read (of172 _) rfl
theorem dX12_read_196 : decode cX12_read 196 = .ok (.aload_n 0, 1) := dec_0 oX12_read (of42 _) rfl
theorem dX12_read_197 : decode cX12_read 197 = .ok (.getfield 176, 3) := dec_2 oX12_read (of180 _) 0 176 rfl rfl
theorem dX12_read_200 : decode cX12_read 200 = .ok (.ireturn, 1) := dec_0 oX12_read (of172 _) rfl
theorem dX12_toldInt_0 : decode cX12_toldInt 0 = .ok (.aload_n 0, 1) := dec_0 oX12_toldInt (of42 _) rfl
theorem dX12_toldInt_1 : decode cX12_toldInt 1 = .ok (.invokevirtual 191, 3) := dec_2 oX12_toldInt (of182 _) 0 191 rfl rfl
theorem dX12_toldInt_4 : decode cX12_toldInt 4 = .ok (.aload_n 0, 1) := dec_0 oX12_toldInt (of42 _) rfl
theorem dX12_toldInt_5 : decode cX12_toldInt 5 = .ok (.iload_n 1, 1) := dec_0 oX12_toldInt (of27 _) rfl
theorem dX12_toldInt_6 : decode cX12_toldInt 6 = .ok (.iload_n 2, 1) := dec_0 oX12_toldInt (of28 _) rfl
theorem dX12_toldInt_7 : decode cX12_toldInt 7 = .ok (.invokevirtual 212, 3) := dec_2 oX12_toldInt (of182 _) 0 212 rfl rfl
theorem dX12_toldInt_10 : decode cX12_toldInt 10 = .ok (.istore_n 3, 1) := dec_0 oX12_toldInt (of62 _) rfl
theorem dX12_toldInt_11 : decode cX12_toldInt 11 = .ok (.aload_n 0, 1) := dec_0 oX12_toldInt (of42 _) rfl
theorem dX12_toldInt_12 : decode cX12_toldInt 12 = .ok (.iconst 4, 1) := dec_0 oX12_toldInt (of7 _) rfl
theorem dX12_toldInt_13 : decode cX12_toldInt 13 = .ok (.invokevirtual 216, 3) := dec_2 oX12_toldInt (of182 _) 0 216 rfl rfl
theorem dX12_toldInt_16 : decode cX12_toldInt 16 = .ok (.iload_n 3, 1) := dec_0 oX12_toldInt (of29 _) rfl
theorem dX12_toldInt_17 : decode cX12_toldInt 17 = .ok (.ireturn, 1) := dec_0 oX12_toldInt (of172 _) rfl
theorem dX12_toldWord_0 : decode cX12_toldWord 0 = .ok (.aload_n 0, 1) := dec_0 oX12_toldWord (of42 _) rfl
theorem dX12_toldWord_1 : decode cX12_toldWord 1 = .ok (.invokevirtual 191, 3) := dec_2 oX12_toldWord (of182 _) 0 191 rfl rfl
theorem dX12_toldWord_4 : decode cX12_toldWord 4 = .ok (.aload_n 0, 1) := dec_0 oX12_toldWord (of42 _) rfl
theorem dX12_toldWord_5 : decode cX12_toldWord 5 = .ok (.getfield 161, 3) := dec_2 oX12_toldWord (of180 _) 0 161 rfl rfl
theorem dX12_toldWord_8 : decode cX12_toldWord 8 = .ok (.ifCond .le 7, 3) := dec_s2 oX12_toldWord (of158 _) 0 7 rfl (sg16p rfl) rfl
theorem dX12_toldWord_11 : decode cX12_toldWord 11 = .ok (.iconst (-1), 1) := dec_0 oX12_toldWord (of2 _) rfl
theorem dX12_toldWord_12 : decode cX12_toldWord 12 = .ok (.goto 14, 3) := dec_s2 oX12_toldWord (of167 _) 0 14 rfl (sg16p rfl) rfl
theorem dX12_toldWord_15 : decode cX12_toldWord 15 = .ok (.aload_n 0, 1) := dec_0 oX12_toldWord (of42 _) rfl
theorem dX12_toldWord_16 : decode cX12_toldWord 16 = .ok (.getfield 20, 3) := dec_2 oX12_toldWord (of180 _) 0 20 rfl rfl
theorem dX12_toldWord_19 : decode cX12_toldWord 19 = .ok (.aload_n 0, 1) := dec_0 oX12_toldWord (of42 _) rfl
theorem dX12_toldWord_20 : decode cX12_toldWord 20 = .ok (.getfield 164, 3) := dec_2 oX12_toldWord (of180 _) 0 164 rfl rfl
theorem dX12_toldWord_23 : decode cX12_toldWord 23 = .ok (.iaload, 1) := dec_0 oX12_toldWord (of46 _) rfl
theorem dX12_toldWord_24 : decode cX12_toldWord 24 = .ok (.iload_n 1, 1) := dec_0 oX12_toldWord (of27 _) rfl
theorem dX12_toldWord_25 : decode cX12_toldWord 25 = .ok (.isub, 1) := dec_0 oX12_toldWord (of100 _) rfl
theorem dX12_toldWord_26 : decode cX12_toldWord 26 = .ok (.istore_n 3, 1) := dec_0 oX12_toldWord (of62 _) rfl
theorem dX12_toldWord_27 : decode cX12_toldWord 27 = .ok (.iload_n 3, 1) := dec_0 oX12_toldWord (of29 _) rfl
theorem dX12_toldWord_28 : decode cX12_toldWord 28 = .ok (.ifCond .lt 8, 3) := dec_s2 oX12_toldWord (of155 _) 0 8 rfl (sg16p rfl) rfl
theorem dX12_toldWord_31 : decode cX12_toldWord 31 = .ok (.iload_n 3, 1) := dec_0 oX12_toldWord (of29 _) rfl
theorem dX12_toldWord_32 : decode cX12_toldWord 32 = .ok (.iload_n 2, 1) := dec_0 oX12_toldWord (of28 _) rfl
theorem dX12_toldWord_33 : decode cX12_toldWord 33 = .ok (.if_icmp .lt 8, 3) := dec_s2 oX12_toldWord (of161 _) 0 8 rfl (sg16p rfl) rfl
theorem dX12_toldWord_36 : decode cX12_toldWord 36 = .ok (.aload_n 0, 1) := dec_0 oX12_toldWord (of42 _) rfl
theorem dX12_toldWord_37 : decode cX12_toldWord 37 = .ok (.iconst 1, 1) := dec_0 oX12_toldWord (of4 _) rfl
theorem dX12_toldWord_38 : decode cX12_toldWord 38 = .ok (.invokevirtual 185, 3) := dec_2 oX12_toldWord (of182 _) 0 185 rfl rfl
theorem dX12_toldWord_41 : decode cX12_toldWord 41 = .ok (.aload_n 0, 1) := dec_0 oX12_toldWord (of42 _) rfl
theorem dX12_toldWord_42 : decode cX12_toldWord 42 = .ok (.getfield 161, 3) := dec_2 oX12_toldWord (of180 _) 0 161 rfl rfl
theorem dX12_toldWord_45 : decode cX12_toldWord 45 = .ok (.ifCond .ne 7, 3) := dec_s2 oX12_toldWord (of154 _) 0 7 rfl (sg16p rfl) rfl
theorem dX12_toldWord_48 : decode cX12_toldWord 48 = .ok (.aload_n 0, 1) := dec_0 oX12_toldWord (of42 _) rfl
theorem dX12_toldWord_49 : decode cX12_toldWord 49 = .ok (.invokevirtual 191, 3) := dec_2 oX12_toldWord (of182 _) 0 191 rfl rfl
theorem dX12_toldWord_52 : decode cX12_toldWord 52 = .ok (.aload_n 0, 1) := dec_0 oX12_toldWord (of42 _) rfl
theorem dX12_toldWord_53 : decode cX12_toldWord 53 = .ok (.iconst 4, 1) := dec_0 oX12_toldWord (of7 _) rfl
theorem dX12_toldWord_54 : decode cX12_toldWord 54 = .ok (.invokevirtual 216, 3) := dec_2 oX12_toldWord (of182 _) 0 216 rfl rfl
theorem dX12_toldWord_57 : decode cX12_toldWord 57 = .ok (.iload_n 3, 1) := dec_0 oX12_toldWord (of29 _) rfl
theorem dX12_toldWord_58 : decode cX12_toldWord 58 = .ok (.ireturn, 1) := dec_0 oX12_toldWord (of172 _) rfl
theorem dX12_tellOne_0 : decode cX12_tellOne 0 = .ok (.aload_n 0, 1) := dec_0 oX12_tellOne (of42 _) rfl
theorem dX12_tellOne_1 : decode cX12_tellOne 1 = .ok (.getfield 20, 3) := dec_2 oX12_tellOne (of180 _) 0 20 rfl rfl
theorem dX12_tellOne_4 : decode cX12_tellOne 4 = .ok (.aload_n 0, 1) := dec_0 oX12_tellOne (of42 _) rfl
theorem dX12_tellOne_5 : decode cX12_tellOne 5 = .ok (.getfield 164, 3) := dec_2 oX12_tellOne (of180 _) 0 164 rfl rfl
theorem dX12_tellOne_8 : decode cX12_tellOne 8 = .ok (.iaload, 1) := dec_0 oX12_tellOne (of46 _) rfl
theorem dX12_tellOne_9 : decode cX12_tellOne 9 = .ok (.tableswitch 176 20 25 #[39, 57, 100, 119, 138, 157], 39) := by decide +kernel
theorem dX12_tellOne_48 : decode cX12_tellOne 48 = .ok (.aload_n 0, 1) := dec_0 oX12_tellOne (of42 _) rfl
theorem dX12_tellOne_49 : decode cX12_tellOne 49 = .ok (.invokevirtual 191, 3) := dec_2 oX12_tellOne (of182 _) 0 191 rfl rfl
theorem dX12_tellOne_52 : decode cX12_tellOne 52 = .ok (.aload_n 0, 1) := dec_0 oX12_tellOne (of42 _) rfl
theorem dX12_tellOne_53 : decode cX12_tellOne 53 = .ok (.getfield 161, 3) := dec_2 oX12_tellOne (of180 _) 0 161 rfl rfl
theorem dX12_tellOne_56 : decode cX12_tellOne 56 = .ok (.ifCond .ne 134, 3) := dec_s2 oX12_tellOne (of154 _) 0 134 rfl (sg16p rfl) rfl
theorem dX12_tellOne_59 : decode cX12_tellOne 59 = .ok (.aload_n 0, 1) := dec_0 oX12_tellOne (of42 _) rfl
theorem dX12_tellOne_60 : decode cX12_tellOne 60 = .ok (.invokevirtual 219, 3) := dec_2 oX12_tellOne (of182 _) 0 219 rfl rfl
theorem dX12_tellOne_63 : decode cX12_tellOne 63 = .ok (.goto 127, 3) := dec_s2 oX12_tellOne (of167 _) 0 127 rfl (sg16p rfl) rfl
theorem dX12_tellOne_66 : decode cX12_tellOne 66 = .ok (.aload_n 0, 1) := dec_0 oX12_tellOne (of42 _) rfl
theorem dX12_tellOne_67 : decode cX12_tellOne 67 = .ok (.getfield 49, 3) := dec_2 oX12_tellOne (of180 _) 0 49 rfl rfl
theorem dX12_tellOne_70 : decode cX12_tellOne 70 = .ok (.aload_n 0, 1) := dec_0 oX12_tellOne (of42 _) rfl
theorem dX12_tellOne_71 : decode cX12_tellOne 71 = .ok (.getfield 200, 3) := dec_2 oX12_tellOne (of180 _) 0 200 rfl rfl
theorem dX12_tellOne_74 : decode cX12_tellOne 74 = .ok (.iaload, 1) := dec_0 oX12_tellOne (of46 _) rfl
theorem dX12_tellOne_75 : decode cX12_tellOne 75 = .ok (.iconst 5, 1) := dec_0 oX12_tellOne (of8 _) rfl
theorem dX12_tellOne_76 : decode cX12_tellOne 76 = .ok (.if_icmp .ne 8, 3) := dec_s2 oX12_tellOne (of160 _) 0 8 rfl (sg16p rfl) rfl
theorem dX12_tellOne_79 : decode cX12_tellOne 79 = .ok (.aload_n 0, 1) := dec_0 oX12_tellOne (of42 _) rfl
theorem dX12_tellOne_80 : decode cX12_tellOne 80 = .ok (.iconst 2, 1) := dec_0 oX12_tellOne (of5 _) rfl
theorem dX12_tellOne_81 : decode cX12_tellOne 81 = .ok (.invokevirtual 185, 3) := dec_2 oX12_tellOne (of182 _) 0 185 rfl rfl
theorem dX12_tellOne_84 : decode cX12_tellOne 84 = .ok (.aload_n 0, 1) := dec_0 oX12_tellOne (of42 _) rfl
theorem dX12_tellOne_85 : decode cX12_tellOne 85 = .ok (.getfield 161, 3) := dec_2 oX12_tellOne (of180 _) 0 161 rfl rfl
theorem dX12_tellOne_88 : decode cX12_tellOne 88 = .ok (.ifCond .ne 7, 3) := dec_s2 oX12_tellOne (of154 _) 0 7 rfl (sg16p rfl) rfl
theorem dX12_tellOne_91 : decode cX12_tellOne 91 = .ok (.aload_n 0, 1) := dec_0 oX12_tellOne (of42 _) rfl
theorem dX12_tellOne_92 : decode cX12_tellOne 92 = .ok (.invokevirtual 191, 3) := dec_2 oX12_tellOne (of182 _) 0 191 rfl rfl
theorem dX12_tellOne_95 : decode cX12_tellOne 95 = .ok (.aload_n 0, 1) := dec_0 oX12_tellOne (of42 _) rfl
theorem dX12_tellOne_96 : decode cX12_tellOne 96 = .ok (.getfield 161, 3) := dec_2 oX12_tellOne (of180 _) 0 161 rfl rfl
theorem dX12_tellOne_99 : decode cX12_tellOne 99 = .ok (.ifCond .ne 91, 3) := dec_s2 oX12_tellOne (of154 _) 0 91 rfl (sg16p rfl) rfl
theorem dX12_tellOne_102 : decode cX12_tellOne 102 = .ok (.aload_n 0, 1) := dec_0 oX12_tellOne (of42 _) rfl
theorem dX12_tellOne_103 : decode cX12_tellOne 103 = .ok (.invokevirtual 222, 3) := dec_2 oX12_tellOne (of182 _) 0 222 rfl rfl
theorem dX12_tellOne_106 : decode cX12_tellOne 106 = .ok (.goto 84, 3) := dec_s2 oX12_tellOne (of167 _) 0 84 rfl (sg16p rfl) rfl
theorem dX12_tellOne_109 : decode cX12_tellOne 109 = .ok (.aload_n 0, 1) := dec_0 oX12_tellOne (of42 _) rfl
theorem dX12_tellOne_110 : decode cX12_tellOne 110 = .ok (.getfield 58, 3) := dec_2 oX12_tellOne (of180 _) 0 58 rfl rfl
theorem dX12_tellOne_113 : decode cX12_tellOne 113 = .ok (.aload_n 0, 1) := dec_0 oX12_tellOne (of42 _) rfl
theorem dX12_tellOne_114 : decode cX12_tellOne 114 = .ok (.getfield 200, 3) := dec_2 oX12_tellOne (of180 _) 0 200 rfl rfl
theorem dX12_tellOne_117 : decode cX12_tellOne 117 = .ok (.aload_n 0, 1) := dec_0 oX12_tellOne (of42 _) rfl
theorem dX12_tellOne_118 : decode cX12_tellOne 118 = .ok (.iconst 0, 1) := dec_0 oX12_tellOne (of3 _) rfl
theorem dX12_tellOne_119 : decode cX12_tellOne 119 = .ok (.bipush 15, 2) := dec_s1 oX12_tellOne (of16 _) 15 rfl (sg8p rfl) rfl
theorem dX12_tellOne_121 : decode cX12_tellOne 121 = .ok (.invokevirtual 225, 3) := dec_2 oX12_tellOne (of182 _) 0 225 rfl rfl
theorem dX12_tellOne_124 : decode cX12_tellOne 124 = .ok (.iastore, 1) := dec_0 oX12_tellOne (of79 _) rfl
theorem dX12_tellOne_125 : decode cX12_tellOne 125 = .ok (.goto 65, 3) := dec_s2 oX12_tellOne (of167 _) 0 65 rfl (sg16p rfl) rfl
theorem dX12_tellOne_128 : decode cX12_tellOne 128 = .ok (.aload_n 0, 1) := dec_0 oX12_tellOne (of42 _) rfl
theorem dX12_tellOne_129 : decode cX12_tellOne 129 = .ok (.getfield 61, 3) := dec_2 oX12_tellOne (of180 _) 0 61 rfl rfl
theorem dX12_tellOne_132 : decode cX12_tellOne 132 = .ok (.aload_n 0, 1) := dec_0 oX12_tellOne (of42 _) rfl
theorem dX12_tellOne_133 : decode cX12_tellOne 133 = .ok (.getfield 200, 3) := dec_2 oX12_tellOne (of180 _) 0 200 rfl rfl
theorem dX12_tellOne_136 : decode cX12_tellOne 136 = .ok (.aload_n 0, 1) := dec_0 oX12_tellOne (of42 _) rfl
theorem dX12_tellOne_137 : decode cX12_tellOne 137 = .ok (.bipush 27, 2) := dec_s1 oX12_tellOne (of16 _) 27 rfl (sg8p rfl) rfl
theorem dX12_tellOne_139 : decode cX12_tellOne 139 = .ok (.iconst 4, 1) := dec_0 oX12_tellOne (of7 _) rfl
theorem dX12_tellOne_140 : decode cX12_tellOne 140 = .ok (.invokevirtual 228, 3) := dec_2 oX12_tellOne (of182 _) 0 228 rfl rfl
theorem dX12_tellOne_143 : decode cX12_tellOne 143 = .ok (.iastore, 1) := dec_0 oX12_tellOne (of79 _) rfl
theorem dX12_tellOne_144 : decode cX12_tellOne 144 = .ok (.goto 46, 3) := dec_s2 oX12_tellOne (of167 _) 0 46 rfl (sg16p rfl) rfl
theorem dX12_tellOne_147 : decode cX12_tellOne 147 = .ok (.aload_n 0, 1) := dec_0 oX12_tellOne (of42 _) rfl
theorem dX12_tellOne_148 : decode cX12_tellOne 148 = .ok (.getfield 64, 3) := dec_2 oX12_tellOne (of180 _) 0 64 rfl rfl
theorem dX12_tellOne_151 : decode cX12_tellOne 151 = .ok (.aload_n 0, 1) := dec_0 oX12_tellOne (of42 _) rfl
theorem dX12_tellOne_152 : decode cX12_tellOne 152 = .ok (.getfield 200, 3) := dec_2 oX12_tellOne (of180 _) 0 200 rfl rfl
theorem dX12_tellOne_155 : decode cX12_tellOne 155 = .ok (.aload_n 0, 1) := dec_0 oX12_tellOne (of42 _) rfl
theorem dX12_tellOne_156 : decode cX12_tellOne 156 = .ok (.bipush 31, 2) := dec_s1 oX12_tellOne (of16 _) 31 rfl (sg8p rfl) rfl
theorem dX12_tellOne_158 : decode cX12_tellOne 158 = .ok (.iconst 2, 1) := dec_0 oX12_tellOne (of5 _) rfl
theorem dX12_tellOne_159 : decode cX12_tellOne 159 = .ok (.invokevirtual 228, 3) := dec_2 oX12_tellOne (of182 _) 0 228 rfl rfl
theorem dX12_tellOne_162 : decode cX12_tellOne 162 = .ok (.iastore, 1) := dec_0 oX12_tellOne (of79 _) rfl
theorem dX12_tellOne_163 : decode cX12_tellOne 163 = .ok (.goto 27, 3) := dec_s2 oX12_tellOne (of167 _) 0 27 rfl (sg16p rfl) rfl
theorem dX12_tellOne_166 : decode cX12_tellOne 166 = .ok (.aload_n 0, 1) := dec_0 oX12_tellOne (of42 _) rfl
theorem dX12_tellOne_167 : decode cX12_tellOne 167 = .ok (.getfield 67, 3) := dec_2 oX12_tellOne (of180 _) 0 67 rfl rfl
theorem dX12_tellOne_170 : decode cX12_tellOne 170 = .ok (.aload_n 0, 1) := dec_0 oX12_tellOne (of42 _) rfl
theorem dX12_tellOne_171 : decode cX12_tellOne 171 = .ok (.getfield 200, 3) := dec_2 oX12_tellOne (of180 _) 0 200 rfl rfl
theorem dX12_tellOne_174 : decode cX12_tellOne 174 = .ok (.aload_n 0, 1) := dec_0 oX12_tellOne (of42 _) rfl
theorem dX12_tellOne_175 : decode cX12_tellOne 175 = .ok (.iconst 1, 1) := dec_0 oX12_tellOne (of4 _) rfl
theorem dX12_tellOne_176 : decode cX12_tellOne 176 = .ok (.bipush 99, 2) := dec_s1 oX12_tellOne (of16 _) 99 rfl (sg8p rfl) rfl
theorem dX12_tellOne_178 : decode cX12_tellOne 178 = .ok (.invokevirtual 225, 3) := dec_2 oX12_tellOne (of182 _) 0 225 rfl rfl
theorem dX12_tellOne_181 : decode cX12_tellOne 181 = .ok (.iastore, 1) := dec_0 oX12_tellOne (of79 _) rfl
theorem dX12_tellOne_182 : decode cX12_tellOne 182 = .ok (.goto 8, 3) := dec_s2 oX12_tellOne (of167 _) 0 8 rfl (sg16p rfl) rfl
theorem dX12_tellOne_185 : decode cX12_tellOne 185 = .ok (.aload_n 0, 1) := dec_0 oX12_tellOne (of42 _) rfl
theorem dX12_tellOne_186 : decode cX12_tellOne 186 = .ok (.iconst 1, 1) := dec_0 oX12_tellOne (of4 _) rfl
theorem dX12_tellOne_187 : decode cX12_tellOne 187 = .ok (.invokevirtual 185, 3) := dec_2 oX12_tellOne (of182 _) 0 185 rfl rfl
theorem dX12_tellOne_190 : decode cX12_tellOne 190 = .ok (.return_, 1) := dec_0 oX12_tellOne (of177 _) rfl
theorem dX12_bounded_0 : decode cX12_bounded 0 = .ok (.aload_n 0, 1) := dec_0 oX12_bounded (of42 _) rfl
theorem dX12_bounded_1 : decode cX12_bounded 1 = .ok (.getfield 161, 3) := dec_2 oX12_bounded (of180 _) 0 161 rfl rfl
theorem dX12_bounded_4 : decode cX12_bounded 4 = .ok (.ifCond .gt 11, 3) := dec_s2 oX12_bounded (of157 _) 0 11 rfl (sg16p rfl) rfl
theorem dX12_bounded_7 : decode cX12_bounded 7 = .ok (.aload_n 0, 1) := dec_0 oX12_bounded (of42 _) rfl
theorem dX12_bounded_8 : decode cX12_bounded 8 = .ok (.iconst 2, 1) := dec_0 oX12_bounded (of5 _) rfl
theorem dX12_bounded_9 : decode cX12_bounded 9 = .ok (.invokevirtual 188, 3) := dec_2 oX12_bounded (of182 _) 0 188 rfl rfl
theorem dX12_bounded_12 : decode cX12_bounded 12 = .ok (.ifCond .ne 10, 3) := dec_s2 oX12_bounded (of154 _) 0 10 rfl (sg16p rfl) rfl
theorem dX12_bounded_15 : decode cX12_bounded 15 = .ok (.aload_n 0, 1) := dec_0 oX12_bounded (of42 _) rfl
theorem dX12_bounded_16 : decode cX12_bounded 16 = .ok (.iconst 1, 1) := dec_0 oX12_bounded (of4 _) rfl
theorem dX12_bounded_17 : decode cX12_bounded 17 = .ok (.invokevirtual 185, 3) := dec_2 oX12_bounded (of182 _) 0 185 rfl rfl
theorem dX12_bounded_20 : decode cX12_bounded 20 = .ok (.iload_n 1, 1) := dec_0 oX12_bounded (of27 _) rfl
theorem dX12_bounded_21 : decode cX12_bounded 21 = .ok (.ireturn, 1) := dec_0 oX12_bounded (of172 _) rfl
theorem dX12_bounded_22 : decode cX12_bounded 22 = .ok (.aload_n 0, 1) := dec_0 oX12_bounded (of42 _) rfl
theorem dX12_bounded_23 : decode cX12_bounded 23 = .ok (.getfield 27, 3) := dec_2 oX12_bounded (of180 _) 0 27 rfl rfl
theorem dX12_bounded_26 : decode cX12_bounded 26 = .ok (.aload_n 0, 1) := dec_0 oX12_bounded (of42 _) rfl
theorem dX12_bounded_27 : decode cX12_bounded 27 = .ok (.getfield 164, 3) := dec_2 oX12_bounded (of180 _) 0 164 rfl rfl
theorem dX12_bounded_30 : decode cX12_bounded 30 = .ok (.iaload, 1) := dec_0 oX12_bounded (of46 _) rfl
theorem dX12_bounded_31 : decode cX12_bounded 31 = .ok (.istore_n 3, 1) := dec_0 oX12_bounded (of62 _) rfl
theorem dX12_bounded_32 : decode cX12_bounded 32 = .ok (.iload_n 3, 1) := dec_0 oX12_bounded (of29 _) rfl
theorem dX12_bounded_33 : decode cX12_bounded 33 = .ok (.iload_n 1, 1) := dec_0 oX12_bounded (of27 _) rfl
theorem dX12_bounded_34 : decode cX12_bounded 34 = .ok (.if_icmp .lt 8, 3) := dec_s2 oX12_bounded (of161 _) 0 8 rfl (sg16p rfl) rfl
theorem dX12_bounded_37 : decode cX12_bounded 37 = .ok (.iload_n 3, 1) := dec_0 oX12_bounded (of29 _) rfl
theorem dX12_bounded_38 : decode cX12_bounded 38 = .ok (.iload_n 2, 1) := dec_0 oX12_bounded (of28 _) rfl
theorem dX12_bounded_39 : decode cX12_bounded 39 = .ok (.if_icmp .le 12, 3) := dec_s2 oX12_bounded (of164 _) 0 12 rfl (sg16p rfl) rfl
theorem dX12_bounded_42 : decode cX12_bounded 42 = .ok (.aload_n 0, 1) := dec_0 oX12_bounded (of42 _) rfl
theorem dX12_bounded_43 : decode cX12_bounded 43 = .ok (.iconst 5, 1) := dec_0 oX12_bounded (of8 _) rfl
theorem dX12_bounded_44 : decode cX12_bounded 44 = .ok (.aload_n 0, 1) := dec_0 oX12_bounded (of42 _) rfl
theorem dX12_bounded_45 : decode cX12_bounded 45 = .ok (.getfield 164, 3) := dec_2 oX12_bounded (of180 _) 0 164 rfl rfl
theorem dX12_bounded_48 : decode cX12_bounded 48 = .ok (.invokevirtual 231, 3) := dec_2 oX12_bounded (of182 _) 0 231 rfl rfl
theorem dX12_bounded_51 : decode cX12_bounded 51 = .ok (.aload_n 0, 1) := dec_0 oX12_bounded (of42 _) rfl
theorem dX12_bounded_52 : decode cX12_bounded 52 = .ok (.invokevirtual 191, 3) := dec_2 oX12_bounded (of182 _) 0 191 rfl rfl
theorem dX12_bounded_55 : decode cX12_bounded 55 = .ok (.iload_n 3, 1) := dec_0 oX12_bounded (of29 _) rfl
theorem dX12_bounded_56 : decode cX12_bounded 56 = .ok (.ireturn, 1) := dec_0 oX12_bounded (of172 _) rfl
theorem dX12_isReading_0 : decode cX12_isReading 0 = .ok (.aload_n 0, 1) := dec_0 oX12_isReading (of42 _) rfl
theorem dX12_isReading_1 : decode cX12_isReading 1 = .ok (.bipush 9, 2) := dec_s1 oX12_isReading (of16 _) 9 rfl (sg8p rfl) rfl
theorem dX12_isReading_3 : decode cX12_isReading 3 = .ok (.invokevirtual 188, 3) := dec_2 oX12_isReading (of182 _) 0 188 rfl rfl
theorem dX12_isReading_6 : decode cX12_isReading 6 = .ok (.ifCond .ne 11, 3) := dec_s2 oX12_isReading (of154 _) 0 11 rfl (sg16p rfl) rfl
theorem dX12_isReading_9 : decode cX12_isReading 9 = .ok (.aload_n 0, 1) := dec_0 oX12_isReading (of42 _) rfl
theorem dX12_isReading_10 : decode cX12_isReading 10 = .ok (.iconst 2, 1) := dec_0 oX12_isReading (of5 _) rfl
theorem dX12_isReading_11 : decode cX12_isReading 11 = .ok (.invokevirtual 188, 3) := dec_2 oX12_isReading (of182 _) 0 188 rfl rfl
theorem dX12_isReading_14 : decode cX12_isReading 14 = .ok (.ifCond .eq 7, 3) := dec_s2 oX12_isReading (of153 _) 0 7 rfl (sg16p rfl) rfl
theorem dX12_isReading_17 : decode cX12_isReading 17 = .ok (.iconst 1, 1) := dec_0 oX12_isReading (of4 _) rfl
theorem dX12_isReading_18 : decode cX12_isReading 18 = .ok (.goto 4, 3) := dec_s2 oX12_isReading (of167 _) 0 4 rfl (sg16p rfl) rfl
theorem dX12_isReading_21 : decode cX12_isReading 21 = .ok (.iconst 0, 1) := dec_0 oX12_isReading (of3 _) rfl
theorem dX12_isReading_22 : decode cX12_isReading 22 = .ok (.ireturn, 1) := dec_0 oX12_isReading (of172 _) rfl
theorem dX12_readingTold_0 : decode cX12_readingTold 0 = .ok (.aload_n 0, 1) := dec_0 oX12_readingTold (of42 _) rfl
theorem dX12_readingTold_1 : decode cX12_readingTold 1 = .ok (.bipush 9, 2) := dec_s1 oX12_readingTold (of16 _) 9 rfl (sg8p rfl) rfl
theorem dX12_readingTold_3 : decode cX12_readingTold 3 = .ok (.invokevirtual 188, 3) := dec_2 oX12_readingTold (of182 _) 0 188 rfl rfl
theorem dX12_readingTold_6 : decode cX12_readingTold 6 = .ok (.istore_n 1, 1) := dec_0 oX12_readingTold (of60 _) rfl
theorem dX12_readingTold_7 : decode cX12_readingTold 7 = .ok (.iload_n 1, 1) := dec_0 oX12_readingTold (of27 _) rfl
theorem dX12_readingTold_8 : decode cX12_readingTold 8 = .ok (.ifCond .eq 7, 3) := dec_s2 oX12_readingTold (of153 _) 0 7 rfl (sg16p rfl) rfl
theorem dX12_readingTold_11 : decode cX12_readingTold 11 = .ok (.aload_n 0, 1) := dec_0 oX12_readingTold (of42 _) rfl
theorem dX12_readingTold_12 : decode cX12_readingTold 12 = .ok (.invokevirtual 191, 3) := dec_2 oX12_readingTold (of182 _) 0 191 rfl rfl
theorem dX12_readingTold_15 : decode cX12_readingTold 15 = .ok (.aload_n 0, 1) := dec_0 oX12_readingTold (of42 _) rfl
theorem dX12_readingTold_16 : decode cX12_readingTold 16 = .ok (.iconst 0, 1) := dec_0 oX12_readingTold (of3 _) rfl
theorem dX12_readingTold_17 : decode cX12_readingTold 17 = .ok (.sipush 999, 3) := dec_s2 oX12_readingTold (of17 _) 3 231 rfl (sg16p rfl) rfl
theorem dX12_readingTold_20 : decode cX12_readingTold 20 = .ok (.invokevirtual 212, 3) := dec_2 oX12_readingTold (of182 _) 0 212 rfl rfl
theorem dX12_readingTold_23 : decode cX12_readingTold 23 = .ok (.istore_n 2, 1) := dec_0 oX12_readingTold (of61 _) rfl
theorem dX12_readingTold_24 : decode cX12_readingTold 24 = .ok (.iload_n 1, 1) := dec_0 oX12_readingTold (of27 _) rfl
theorem dX12_readingTold_25 : decode cX12_readingTold 25 = .ok (.ifCond .eq 8, 3) := dec_s2 oX12_readingTold (of153 _) 0 8 rfl (sg16p rfl) rfl
theorem dX12_readingTold_28 : decode cX12_readingTold 28 = .ok (.iload_n 2, 1) := dec_0 oX12_readingTold (of28 _) rfl
theorem dX12_readingTold_29 : decode cX12_readingTold 29 = .ok (.ineg, 1) := dec_0 oX12_readingTold (of116 _) rfl
theorem dX12_readingTold_30 : decode cX12_readingTold 30 = .ok (.goto 4, 3) := dec_s2 oX12_readingTold (of167 _) 0 4 rfl (sg16p rfl) rfl
theorem dX12_readingTold_33 : decode cX12_readingTold 33 = .ok (.iload_n 2, 1) := dec_0 oX12_readingTold (of28 _) rfl
theorem dX12_readingTold_34 : decode cX12_readingTold 34 = .ok (.ireturn, 1) := dec_0 oX12_readingTold (of172 _) rfl
theorem dX12_tellSeries_0 : decode cX12_tellSeries 0 = .ok (.aload_n 0, 1) := dec_0 oX12_tellSeries (of42 _) rfl
theorem dX12_tellSeries_1 : decode cX12_tellSeries 1 = .ok (.iconst 0, 1) := dec_0 oX12_tellSeries (of3 _) rfl
theorem dX12_tellSeries_2 : decode cX12_tellSeries 2 = .ok (.putfield 170, 3) := dec_2 oX12_tellSeries (of181 _) 0 170 rfl rfl
theorem dX12_tellSeries_5 : decode cX12_tellSeries 5 = .ok (.aload_n 0, 1) := dec_0 oX12_tellSeries (of42 _) rfl
theorem dX12_tellSeries_6 : decode cX12_tellSeries 6 = .ok (.invokevirtual 235, 3) := dec_2 oX12_tellSeries (of182 _) 0 235 rfl rfl
theorem dX12_tellSeries_9 : decode cX12_tellSeries 9 = .ok (.ifCond .ne 12, 3) := dec_s2 oX12_tellSeries (of154 _) 0 12 rfl (sg16p rfl) rfl
theorem dX12_tellSeries_12 : decode cX12_tellSeries 12 = .ok (.aload_n 0, 1) := dec_0 oX12_tellSeries (of42 _) rfl
theorem dX12_tellSeries_13 : decode cX12_tellSeries 13 = .ok (.bipush 26, 2) := dec_s1 oX12_tellSeries (of16 _) 26 rfl (sg8p rfl) rfl
theorem dX12_tellSeries_15 : decode cX12_tellSeries 15 = .ok (.invokevirtual 188, 3) := dec_2 oX12_tellSeries (of182 _) 0 188 rfl rfl
theorem dX12_tellSeries_18 : decode cX12_tellSeries 18 = .ok (.ifCond .eq 116, 3) := dec_s2 oX12_tellSeries (of153 _) 0 116 rfl (sg16p rfl) rfl
theorem dX12_tellSeries_21 : decode cX12_tellSeries 21 = .ok (.aload_n 0, 1) := dec_0 oX12_tellSeries (of42 _) rfl
theorem dX12_tellSeries_22 : decode cX12_tellSeries 22 = .ok (.getfield 43, 3) := dec_2 oX12_tellSeries (of180 _) 0 43 rfl rfl
theorem dX12_tellSeries_25 : decode cX12_tellSeries 25 = .ok (.aload_n 0, 1) := dec_0 oX12_tellSeries (of42 _) rfl
theorem dX12_tellSeries_26 : decode cX12_tellSeries 26 = .ok (.getfield 200, 3) := dec_2 oX12_tellSeries (of180 _) 0 200 rfl rfl
theorem dX12_tellSeries_29 : decode cX12_tellSeries 29 = .ok (.iaload, 1) := dec_0 oX12_tellSeries (of46 _) rfl
theorem dX12_tellSeries_30 : decode cX12_tellSeries 30 = .ok (.sipush 160, 3) := dec_s2 oX12_tellSeries (of17 _) 0 160 rfl (sg16p rfl) rfl
theorem dX12_tellSeries_33 : decode cX12_tellSeries 33 = .ok (.if_icmp .ne 8, 3) := dec_s2 oX12_tellSeries (of160 _) 0 8 rfl (sg16p rfl) rfl
theorem dX12_tellSeries_36 : decode cX12_tellSeries 36 = .ok (.aload_n 0, 1) := dec_0 oX12_tellSeries (of42 _) rfl
theorem dX12_tellSeries_37 : decode cX12_tellSeries 37 = .ok (.iconst 2, 1) := dec_0 oX12_tellSeries (of5 _) rfl
theorem dX12_tellSeries_38 : decode cX12_tellSeries 38 = .ok (.invokevirtual 185, 3) := dec_2 oX12_tellSeries (of182 _) 0 185 rfl rfl
theorem dX12_tellSeries_41 : decode cX12_tellSeries 41 = .ok (.aload_n 0, 1) := dec_0 oX12_tellSeries (of42 _) rfl
theorem dX12_tellSeries_42 : decode cX12_tellSeries 42 = .ok (.getfield 161, 3) := dec_2 oX12_tellSeries (of180 _) 0 161 rfl rfl
theorem dX12_tellSeries_45 : decode cX12_tellSeries 45 = .ok (.ifCond .le 4, 3) := dec_s2 oX12_tellSeries (of158 _) 0 4 rfl (sg16p rfl) rfl
theorem dX12_tellSeries_48 : decode cX12_tellSeries 48 = .ok (.return_, 1) := dec_0 oX12_tellSeries (of177 _) rfl
theorem dX12_tellSeries_49 : decode cX12_tellSeries 49 = .ok (.aload_n 0, 1) := dec_0 oX12_tellSeries (of42 _) rfl
theorem dX12_tellSeries_50 : decode cX12_tellSeries 50 = .ok (.bipush 26, 2) := dec_s1 oX12_tellSeries (of16 _) 26 rfl (sg8p rfl) rfl
theorem dX12_tellSeries_52 : decode cX12_tellSeries 52 = .ok (.invokevirtual 188, 3) := dec_2 oX12_tellSeries (of182 _) 0 188 rfl rfl
theorem dX12_tellSeries_55 : decode cX12_tellSeries 55 = .ok (.istore_n 1, 1) := dec_0 oX12_tellSeries (of60 _) rfl
theorem dX12_tellSeries_56 : decode cX12_tellSeries 56 = .ok (.iload_n 1, 1) := dec_0 oX12_tellSeries (of27 _) rfl
theorem dX12_tellSeries_57 : decode cX12_tellSeries 57 = .ok (.ifCond .eq 7, 3) := dec_s2 oX12_tellSeries (of153 _) 0 7 rfl (sg16p rfl) rfl
theorem dX12_tellSeries_60 : decode cX12_tellSeries 60 = .ok (.aload_n 0, 1) := dec_0 oX12_tellSeries (of42 _) rfl
theorem dX12_tellSeries_61 : decode cX12_tellSeries 61 = .ok (.invokevirtual 191, 3) := dec_2 oX12_tellSeries (of182 _) 0 191 rfl rfl
theorem dX12_tellSeries_64 : decode cX12_tellSeries 64 = .ok (.aload_n 0, 1) := dec_0 oX12_tellSeries (of42 _) rfl
theorem dX12_tellSeries_65 : decode cX12_tellSeries 65 = .ok (.getfield 46, 3) := dec_2 oX12_tellSeries (of180 _) 0 46 rfl rfl
theorem dX12_tellSeries_68 : decode cX12_tellSeries 68 = .ok (.sipush 160, 3) := dec_s2 oX12_tellSeries (of17 _) 0 160 rfl (sg16p rfl) rfl
theorem dX12_tellSeries_71 : decode cX12_tellSeries 71 = .ok (.aload_n 0, 1) := dec_0 oX12_tellSeries (of42 _) rfl
theorem dX12_tellSeries_72 : decode cX12_tellSeries 72 = .ok (.getfield 200, 3) := dec_2 oX12_tellSeries (of180 _) 0 200 rfl rfl
theorem dX12_tellSeries_75 : decode cX12_tellSeries 75 = .ok (.imul, 1) := dec_0 oX12_tellSeries (of104 _) rfl
theorem dX12_tellSeries_76 : decode cX12_tellSeries 76 = .ok (.aload_n 0, 1) := dec_0 oX12_tellSeries (of42 _) rfl
theorem dX12_tellSeries_77 : decode cX12_tellSeries 77 = .ok (.getfield 43, 3) := dec_2 oX12_tellSeries (of180 _) 0 43 rfl rfl
theorem dX12_tellSeries_80 : decode cX12_tellSeries 80 = .ok (.aload_n 0, 1) := dec_0 oX12_tellSeries (of42 _) rfl
theorem dX12_tellSeries_81 : decode cX12_tellSeries 81 = .ok (.getfield 200, 3) := dec_2 oX12_tellSeries (of180 _) 0 200 rfl rfl
theorem dX12_tellSeries_84 : decode cX12_tellSeries 84 = .ok (.iaload, 1) := dec_0 oX12_tellSeries (of46 _) rfl
theorem dX12_tellSeries_85 : decode cX12_tellSeries 85 = .ok (.iadd, 1) := dec_0 oX12_tellSeries (of96 _) rfl
theorem dX12_tellSeries_86 : decode cX12_tellSeries 86 = .ok (.iload_n 1, 1) := dec_0 oX12_tellSeries (of27 _) rfl
theorem dX12_tellSeries_87 : decode cX12_tellSeries 87 = .ok (.ifCond .eq 8, 3) := dec_s2 oX12_tellSeries (of153 _) 0 8 rfl (sg16p rfl) rfl
theorem dX12_tellSeries_90 : decode cX12_tellSeries 90 = .ok (.ldc 239, 2) := dec_1 oX12_tellSeries (of18 _) 239 rfl rfl
theorem dX12_tellSeries_92 : decode cX12_tellSeries 92 = .ok (.goto 7, 3) := dec_s2 oX12_tellSeries (of167 _) 0 7 rfl (sg16p rfl) rfl
theorem dX12_tellSeries_95 : decode cX12_tellSeries 95 = .ok (.aload_n 0, 1) := dec_0 oX12_tellSeries (of42 _) rfl
theorem dX12_tellSeries_96 : decode cX12_tellSeries 96 = .ok (.invokevirtual 240, 3) := dec_2 oX12_tellSeries (of182 _) 0 240 rfl rfl
theorem dX12_tellSeries_99 : decode cX12_tellSeries 99 = .ok (.iastore, 1) := dec_0 oX12_tellSeries (of79 _) rfl
theorem dX12_tellSeries_100 : decode cX12_tellSeries 100 = .ok (.aload_n 0, 1) := dec_0 oX12_tellSeries (of42 _) rfl
theorem dX12_tellSeries_101 : decode cX12_tellSeries 101 = .ok (.getfield 161, 3) := dec_2 oX12_tellSeries (of180 _) 0 161 rfl rfl
theorem dX12_tellSeries_104 : decode cX12_tellSeries 104 = .ok (.ifCond .le 4, 3) := dec_s2 oX12_tellSeries (of158 _) 0 4 rfl (sg16p rfl) rfl
theorem dX12_tellSeries_107 : decode cX12_tellSeries 107 = .ok (.return_, 1) := dec_0 oX12_tellSeries (of177 _) rfl
theorem dX12_tellSeries_108 : decode cX12_tellSeries 108 = .ok (.aload_n 0, 1) := dec_0 oX12_tellSeries (of42 _) rfl
theorem dX12_tellSeries_109 : decode cX12_tellSeries 109 = .ok (.getfield 43, 3) := dec_2 oX12_tellSeries (of180 _) 0 43 rfl rfl
theorem dX12_tellSeries_112 : decode cX12_tellSeries 112 = .ok (.aload_n 0, 1) := dec_0 oX12_tellSeries (of42 _) rfl
theorem dX12_tellSeries_113 : decode cX12_tellSeries 113 = .ok (.getfield 200, 3) := dec_2 oX12_tellSeries (of180 _) 0 200 rfl rfl
theorem dX12_tellSeries_116 : decode cX12_tellSeries 116 = .ok (.dup2, 1) := dec_0 oX12_tellSeries (of92 _) rfl
theorem dX12_tellSeries_117 : decode cX12_tellSeries 117 = .ok (.iaload, 1) := dec_0 oX12_tellSeries (of46 _) rfl
theorem dX12_tellSeries_118 : decode cX12_tellSeries 118 = .ok (.iconst 1, 1) := dec_0 oX12_tellSeries (of4 _) rfl
theorem dX12_tellSeries_119 : decode cX12_tellSeries 119 = .ok (.iadd, 1) := dec_0 oX12_tellSeries (of96 _) rfl
theorem dX12_tellSeries_120 : decode cX12_tellSeries 120 = .ok (.iastore, 1) := dec_0 oX12_tellSeries (of79 _) rfl
theorem dX12_tellSeries_121 : decode cX12_tellSeries 121 = .ok (.aload_n 0, 1) := dec_0 oX12_tellSeries (of42 _) rfl
theorem dX12_tellSeries_122 : decode cX12_tellSeries 122 = .ok (.dup, 1) := dec_0 oX12_tellSeries (of89 _) rfl
theorem dX12_tellSeries_123 : decode cX12_tellSeries 123 = .ok (.getfield 170, 3) := dec_2 oX12_tellSeries (of180 _) 0 170 rfl rfl
theorem dX12_tellSeries_126 : decode cX12_tellSeries 126 = .ok (.iconst 1, 1) := dec_0 oX12_tellSeries (of4 _) rfl
theorem dX12_tellSeries_127 : decode cX12_tellSeries 127 = .ok (.iadd, 1) := dec_0 oX12_tellSeries (of96 _) rfl
theorem dX12_tellSeries_128 : decode cX12_tellSeries 128 = .ok (.putfield 170, 3) := dec_2 oX12_tellSeries (of181 _) 0 170 rfl rfl
theorem dX12_tellSeries_131 : decode cX12_tellSeries 131 = .ok (.goto (-126), 3) := dec_s2 oX12_tellSeries (of167 _) 255 130 rfl (sg16n (k := 126) rfl) rfl
theorem dX12_tellSeries_134 : decode cX12_tellSeries 134 = .ok (.aload_n 0, 1) := dec_0 oX12_tellSeries (of42 _) rfl
theorem dX12_tellSeries_135 : decode cX12_tellSeries 135 = .ok (.iconst 4, 1) := dec_0 oX12_tellSeries (of7 _) rfl
theorem dX12_tellSeries_136 : decode cX12_tellSeries 136 = .ok (.invokevirtual 216, 3) := dec_2 oX12_tellSeries (of182 _) 0 216 rfl rfl
theorem dX12_tellSeries_139 : decode cX12_tellSeries 139 = .ok (.aload_n 0, 1) := dec_0 oX12_tellSeries (of42 _) rfl
theorem dX12_tellSeries_140 : decode cX12_tellSeries 140 = .ok (.getfield 161, 3) := dec_2 oX12_tellSeries (of180 _) 0 161 rfl rfl
theorem dX12_tellSeries_143 : decode cX12_tellSeries 143 = .ok (.ifCond .ne 9, 3) := dec_s2 oX12_tellSeries (of154 _) 0 9 rfl (sg16p rfl) rfl
theorem dX12_tellSeries_146 : decode cX12_tellSeries 146 = .ok (.aload_n 0, 1) := dec_0 oX12_tellSeries (of42 _) rfl
theorem dX12_tellSeries_147 : decode cX12_tellSeries 147 = .ok (.bipush (-2), 2) := dec_s1 oX12_tellSeries (of16 _) 254 rfl (sg8n (k := 2) rfl) rfl
theorem dX12_tellSeries_149 : decode cX12_tellSeries 149 = .ok (.putfield 170, 3) := dec_2 oX12_tellSeries (of181 _) 0 170 rfl rfl
theorem dX12_tellSeries_152 : decode cX12_tellSeries 152 = .ok (.return_, 1) := dec_0 oX12_tellSeries (of177 _) rfl
theorem dX12_tellQuery_0 : decode cX12_tellQuery 0 = .ok (.aload_n 0, 1) := dec_0 oX12_tellQuery (of42 _) rfl
