theorem dX12_undo_52 : decode cX12_undo 52 = .ok (.goto (-31), 3) := dec_s2 oX12_undo (of167 _) 255 225 rfl (sg16n (k := 31) rfl) rfl
theorem dX12_undo_55 : decode cX12_undo 55 = .ok (.iconst 1, 1) := dec_0 oX12_undo (of4 _) rfl
theorem dX12_undo_56 : decode cX12_undo 56 = .ok (.ireturn, 1) := dec_0 oX12_undo (of172 _) rfl
theorem dX12_sumOf_0 : decode cX12_sumOf 0 = .ok (.iconst 0, 1) := dec_0 oX12_sumOf (of3 _) rfl
theorem dX12_sumOf_1 : decode cX12_sumOf 1 = .ok (.istore_n 3, 1) := dec_0 oX12_sumOf (of62 _) rfl
theorem dX12_sumOf_2 : decode cX12_sumOf 2 = .ok (.iload_n 1, 1) := dec_0 oX12_sumOf (of27 _) rfl
theorem dX12_sumOf_3 : decode cX12_sumOf 3 = .ok (.istore 4, 2) := dec_1 oX12_sumOf (of54 _) 4 rfl rfl
theorem dX12_sumOf_5 : decode cX12_sumOf 5 = .ok (.iload 4, 2) := dec_1 oX12_sumOf (of21 _) 4 rfl rfl
theorem dX12_sumOf_7 : decode cX12_sumOf 7 = .ok (.iload_n 1, 1) := dec_0 oX12_sumOf (of27 _) rfl
theorem dX12_sumOf_8 : decode cX12_sumOf 8 = .ok (.iload_n 2, 1) := dec_0 oX12_sumOf (of28 _) rfl
theorem dX12_sumOf_9 : decode cX12_sumOf 9 = .ok (.iadd, 1) := dec_0 oX12_sumOf (of96 _) rfl
theorem dX12_sumOf_10 : decode cX12_sumOf 10 = .ok (.if_icmp .ge 21, 3) := dec_s2 oX12_sumOf (of162 _) 0 21 rfl (sg16p rfl) rfl
theorem dX12_sumOf_13 : decode cX12_sumOf 13 = .ok (.iload_n 3, 1) := dec_0 oX12_sumOf (of29 _) rfl
theorem dX12_sumOf_14 : decode cX12_sumOf 14 = .ok (.aload_n 0, 1) := dec_0 oX12_sumOf (of42 _) rfl
theorem dX12_sumOf_15 : decode cX12_sumOf 15 = .ok (.getfield 70, 3) := dec_2 oX12_sumOf (of180 _) 0 70 rfl rfl
theorem dX12_sumOf_18 : decode cX12_sumOf 18 = .ok (.iconst 1, 1) := dec_0 oX12_sumOf (of4 _) rfl
theorem dX12_sumOf_19 : decode cX12_sumOf 19 = .ok (.iload 4, 2) := dec_1 oX12_sumOf (of21 _) 4 rfl rfl
theorem dX12_sumOf_21 : decode cX12_sumOf 21 = .ok (.iadd, 1) := dec_0 oX12_sumOf (of96 _) rfl
theorem dX12_sumOf_22 : decode cX12_sumOf 22 = .ok (.iaload, 1) := dec_0 oX12_sumOf (of46 _) rfl
theorem dX12_sumOf_23 : decode cX12_sumOf 23 = .ok (.iadd, 1) := dec_0 oX12_sumOf (of96 _) rfl
theorem dX12_sumOf_24 : decode cX12_sumOf 24 = .ok (.istore_n 3, 1) := dec_0 oX12_sumOf (of62 _) rfl
theorem dX12_sumOf_25 : decode cX12_sumOf 25 = .ok (.iinc 4 1, 3) := dec_ii oX12_sumOf (of132 _) 4 1 rfl (sg8p rfl) rfl
theorem dX12_sumOf_28 : decode cX12_sumOf 28 = .ok (.goto (-23), 3) := dec_s2 oX12_sumOf (of167 _) 255 233 rfl (sg16n (k := 23) rfl) rfl
theorem dX12_sumOf_31 : decode cX12_sumOf 31 = .ok (.iload_n 3, 1) := dec_0 oX12_sumOf (of29 _) rfl
theorem dX12_sumOf_32 : decode cX12_sumOf 32 = .ok (.ireturn, 1) := dec_0 oX12_sumOf (of172 _) rfl
theorem dX12_leastOf_0 : decode cX12_leastOf 0 = .ok (.aload_n 0, 1) := dec_0 oX12_leastOf (of42 _) rfl
theorem dX12_leastOf_1 : decode cX12_leastOf 1 = .ok (.getfield 70, 3) := dec_2 oX12_leastOf (of180 _) 0 70 rfl rfl
theorem dX12_leastOf_4 : decode cX12_leastOf 4 = .ok (.iconst 1, 1) := dec_0 oX12_leastOf (of4 _) rfl
theorem dX12_leastOf_5 : decode cX12_leastOf 5 = .ok (.iload_n 1, 1) := dec_0 oX12_leastOf (of27 _) rfl
theorem dX12_leastOf_6 : decode cX12_leastOf 6 = .ok (.iadd, 1) := dec_0 oX12_leastOf (of96 _) rfl
theorem dX12_leastOf_7 : decode cX12_leastOf 7 = .ok (.iaload, 1) := dec_0 oX12_leastOf (of46 _) rfl
theorem dX12_leastOf_8 : decode cX12_leastOf 8 = .ok (.istore_n 3, 1) := dec_0 oX12_leastOf (of62 _) rfl
theorem dX12_leastOf_9 : decode cX12_leastOf 9 = .ok (.iload_n 1, 1) := dec_0 oX12_leastOf (of27 _) rfl
theorem dX12_leastOf_10 : decode cX12_leastOf 10 = .ok (.istore 4, 2) := dec_1 oX12_leastOf (of54 _) 4 rfl rfl
theorem dX12_leastOf_12 : decode cX12_leastOf 12 = .ok (.iload 4, 2) := dec_1 oX12_leastOf (of21 _) 4 rfl rfl
theorem dX12_leastOf_14 : decode cX12_leastOf 14 = .ok (.iload_n 1, 1) := dec_0 oX12_leastOf (of27 _) rfl
theorem dX12_leastOf_15 : decode cX12_leastOf 15 = .ok (.iload_n 2, 1) := dec_0 oX12_leastOf (of28 _) rfl
theorem dX12_leastOf_16 : decode cX12_leastOf 16 = .ok (.iadd, 1) := dec_0 oX12_leastOf (of96 _) rfl
theorem dX12_leastOf_17 : decode cX12_leastOf 17 = .ok (.if_icmp .ge 32, 3) := dec_s2 oX12_leastOf (of162 _) 0 32 rfl (sg16p rfl) rfl
theorem dX12_leastOf_20 : decode cX12_leastOf 20 = .ok (.aload_n 0, 1) := dec_0 oX12_leastOf (of42 _) rfl
theorem dX12_leastOf_21 : decode cX12_leastOf 21 = .ok (.getfield 70, 3) := dec_2 oX12_leastOf (of180 _) 0 70 rfl rfl
theorem dX12_leastOf_24 : decode cX12_leastOf 24 = .ok (.iconst 1, 1) := dec_0 oX12_leastOf (of4 _) rfl
theorem dX12_leastOf_25 : decode cX12_leastOf 25 = .ok (.iload 4, 2) := dec_1 oX12_leastOf (of21 _) 4 rfl rfl
theorem dX12_leastOf_27 : decode cX12_leastOf 27 = .ok (.iadd, 1) := dec_0 oX12_leastOf (of96 _) rfl
theorem dX12_leastOf_28 : decode cX12_leastOf 28 = .ok (.iaload, 1) := dec_0 oX12_leastOf (of46 _) rfl
theorem dX12_leastOf_29 : decode cX12_leastOf 29 = .ok (.iload_n 3, 1) := dec_0 oX12_leastOf (of29 _) rfl
theorem dX12_leastOf_30 : decode cX12_leastOf 30 = .ok (.if_icmp .ge 13, 3) := dec_s2 oX12_leastOf (of162 _) 0 13 rfl (sg16p rfl) rfl
theorem dX12_leastOf_33 : decode cX12_leastOf 33 = .ok (.aload_n 0, 1) := dec_0 oX12_leastOf (of42 _) rfl
theorem dX12_leastOf_34 : decode cX12_leastOf 34 = .ok (.getfield 70, 3) := dec_2 oX12_leastOf (of180 _) 0 70 rfl rfl
theorem dX12_leastOf_37 : decode cX12_leastOf 37 = .ok (.iconst 1, 1) := dec_0 oX12_leastOf (of4 _) rfl
theorem dX12_leastOf_38 : decode cX12_leastOf 38 = .ok (.iload 4, 2) := dec_1 oX12_leastOf (of21 _) 4 rfl rfl
theorem dX12_leastOf_40 : decode cX12_leastOf 40 = .ok (.iadd, 1) := dec_0 oX12_leastOf (of96 _) rfl
theorem dX12_leastOf_41 : decode cX12_leastOf 41 = .ok (.iaload, 1) := dec_0 oX12_leastOf (of46 _) rfl
theorem dX12_leastOf_42 : decode cX12_leastOf 42 = .ok (.istore_n 3, 1) := dec_0 oX12_leastOf (of62 _) rfl
theorem dX12_leastOf_43 : decode cX12_leastOf 43 = .ok (.iinc 4 1, 3) := dec_ii oX12_leastOf (of132 _) 4 1 rfl (sg8p rfl) rfl
theorem dX12_leastOf_46 : decode cX12_leastOf 46 = .ok (.goto (-34), 3) := dec_s2 oX12_leastOf (of167 _) 255 222 rfl (sg16n (k := 34) rfl) rfl
theorem dX12_leastOf_49 : decode cX12_leastOf 49 = .ok (.iload_n 3, 1) := dec_0 oX12_leastOf (of29 _) rfl
theorem dX12_leastOf_50 : decode cX12_leastOf 50 = .ok (.ireturn, 1) := dec_0 oX12_leastOf (of172 _) rfl
theorem dX12_mostOf_0 : decode cX12_mostOf 0 = .ok (.aload_n 0, 1) := dec_0 oX12_mostOf (of42 _) rfl
theorem dX12_mostOf_1 : decode cX12_mostOf 1 = .ok (.getfield 70, 3) := dec_2 oX12_mostOf (of180 _) 0 70 rfl rfl
theorem dX12_mostOf_4 : decode cX12_mostOf 4 = .ok (.iconst 1, 1) := dec_0 oX12_mostOf (of4 _) rfl
theorem dX12_mostOf_5 : decode cX12_mostOf 5 = .ok (.iload_n 1, 1) := dec_0 oX12_mostOf (of27 _) rfl
theorem dX12_mostOf_6 : decode cX12_mostOf 6 = .ok (.iadd, 1) := dec_0 oX12_mostOf (of96 _) rfl
theorem dX12_mostOf_7 : decode cX12_mostOf 7 = .ok (.iaload, 1) := dec_0 oX12_mostOf (of46 _) rfl
theorem dX12_mostOf_8 : decode cX12_mostOf 8 = .ok (.istore_n 3, 1) := dec_0 oX12_mostOf (of62 _) rfl
theorem dX12_mostOf_9 : decode cX12_mostOf 9 = .ok (.iload_n 1, 1) := dec_0 oX12_mostOf (of27 _) rfl
theorem dX12_mostOf_10 : decode cX12_mostOf 10 = .ok (.istore 4, 2) := dec_1 oX12_mostOf (of54 _) 4 rfl rfl
theorem dX12_mostOf_12 : decode cX12_mostOf 12 = .ok (.iload 4, 2) := dec_1 oX12_mostOf (of21 _) 4 rfl rfl
theorem dX12_mostOf_14 : decode cX12_mostOf 14 = .ok (.iload_n 1, 1) := dec_0 oX12_mostOf (of27 _) rfl
theorem dX12_mostOf_15 : decode cX12_mostOf 15 = .ok (.iload_n 2, 1) := dec_0 oX12_mostOf (of28 _) rfl
theorem dX12_mostOf_16 : decode cX12_mostOf 16 = .ok (.iadd, 1) := dec_0 oX12_mostOf (of96 _) rfl
theorem dX12_mostOf_17 : decode cX12_mostOf 17 = .ok (.if_icmp .ge 32, 3) := dec_s2 oX12_mostOf (of162 _) 0 32 rfl (sg16p rfl) rfl
theorem dX12_mostOf_20 : decode cX12_mostOf 20 = .ok (.aload_n 0, 1) := dec_0 oX12_mostOf (of42 _) rfl
theorem dX12_mostOf_21 : decode cX12_mostOf 21 = .ok (.getfield 70, 3) := dec_2 oX12_mostOf (of180 _) 0 70 rfl rfl
theorem dX12_mostOf_24 : decode cX12_mostOf 24 = .ok (.iconst 1, 1) := dec_0 oX12_mostOf (of4 _) rfl
theorem dX12_mostOf_25 : decode cX12_mostOf 25 = .ok (.iload 4, 2) := dec_1 oX12_mostOf (of21 _) 4 rfl rfl
theorem dX12_mostOf_27 : decode cX12_mostOf 27 = .ok (.iadd, 1) := dec_0 oX12_mostOf (of96 _) rfl
theorem dX12_mostOf_28 : decode cX12_mostOf 28 = .ok (.iaload, 1) := dec_0 oX12_mostOf (of46 _) rfl
theorem dX12_mostOf_29 : decode cX12_mostOf 29 = .ok (.iload_n 3, 1) := dec_0 oX12_mostOf (of29 _) rfl
theorem dX12_mostOf_30 : decode cX12_mostOf 30 = .ok (.if_icmp .le 13, 3) := dec_s2 oX12_mostOf (of164 _) 0 13 rfl (sg16p rfl) rfl
theorem dX12_mostOf_33 : decode cX12_mostOf 33 = .ok (.aload_n 0, 1) := dec_0 oX12_mostOf (of42 _) rfl
theorem dX12_mostOf_34 : decode cX12_mostOf 34 = .ok (.getfield 70, 3) := dec_2 oX12_mostOf (of180 _) 0 70 rfl rfl
theorem dX12_mostOf_37 : decode cX12_mostOf 37 = .ok (.iconst 1, 1) := dec_0 oX12_mostOf (of4 _) rfl
theorem dX12_mostOf_38 : decode cX12_mostOf 38 = .ok (.iload 4, 2) := dec_1 oX12_mostOf (of21 _) 4 rfl rfl
theorem dX12_mostOf_40 : decode cX12_mostOf 40 = .ok (.iadd, 1) := dec_0 oX12_mostOf (of96 _) rfl
theorem dX12_mostOf_41 : decode cX12_mostOf 41 = .ok (.iaload, 1) := dec_0 oX12_mostOf (of46 _) rfl
theorem dX12_mostOf_42 : decode cX12_mostOf 42 = .ok (.istore_n 3, 1) := dec_0 oX12_mostOf (of62 _) rfl
theorem dX12_mostOf_43 : decode cX12_mostOf 43 = .ok (.iinc 4 1, 3) := dec_ii oX12_mostOf (of132 _) 4 1 rfl (sg8p rfl) rfl
theorem dX12_mostOf_46 : decode cX12_mostOf 46 = .ok (.goto (-34), 3) := dec_s2 oX12_mostOf (of167 _) 255 222 rfl (sg16n (k := 34) rfl) rfl
theorem dX12_mostOf_49 : decode cX12_mostOf 49 = .ok (.iload_n 3, 1) := dec_0 oX12_mostOf (of29 _) rfl
theorem dX12_mostOf_50 : decode cX12_mostOf 50 = .ok (.ireturn, 1) := dec_0 oX12_mostOf (of172 _) rfl
theorem dX12_window_13 : decode cX12_window 13 = .ok (.iload_n 3, 1) := dec_0 oX12_window (of29 _) rfl
theorem dX12_window_14 : decode cX12_window 14 = .ok (.tableswitch 62 0 3 #[30, 37, 44, 51], 30) := by decide +kernel
theorem dX12_window_44 : decode cX12_window 44 = .ok (.aload_n 0, 1) := dec_0 oX12_window (of42 _) rfl
theorem dX12_window_45 : decode cX12_window 45 = .ok (.iload_n 1, 1) := dec_0 oX12_window (of27 _) rfl
theorem dX12_window_46 : decode cX12_window 46 = .ok (.iload_n 2, 1) := dec_0 oX12_window (of28 _) rfl
theorem dX12_window_47 : decode cX12_window 47 = .ok (.invokevirtual 333, 3) := dec_2 oX12_window (of182 _) 1 77 rfl rfl
theorem dX12_window_50 : decode cX12_window 50 = .ok (.ireturn, 1) := dec_0 oX12_window (of172 _) rfl
theorem dX12_window_51 : decode cX12_window 51 = .ok (.aload_n 0, 1) := dec_0 oX12_window (of42 _) rfl
theorem dX12_window_52 : decode cX12_window 52 = .ok (.iload_n 1, 1) := dec_0 oX12_window (of27 _) rfl
theorem dX12_window_53 : decode cX12_window 53 = .ok (.iload_n 2, 1) := dec_0 oX12_window (of28 _) rfl
theorem dX12_window_54 : decode cX12_window 54 = .ok (.invokevirtual 336, 3) := dec_2 oX12_window (of182 _) 1 80 rfl rfl
theorem dX12_window_57 : decode cX12_window 57 = .ok (.ireturn, 1) := dec_0 oX12_window (of172 _) rfl
theorem dX12_window_58 : decode cX12_window 58 = .ok (.aload_n 0, 1) := dec_0 oX12_window (of42 _) rfl
theorem dX12_window_59 : decode cX12_window 59 = .ok (.iload_n 1, 1) := dec_0 oX12_window (of27 _) rfl
theorem dX12_window_60 : decode cX12_window 60 = .ok (.iload_n 2, 1) := dec_0 oX12_window (of28 _) rfl
theorem dX12_window_61 : decode cX12_window 61 = .ok (.invokevirtual 339, 3) := dec_2 oX12_window (of182 _) 1 83 rfl rfl
theorem dX12_window_64 : decode cX12_window 64 = .ok (.ireturn, 1) := dec_0 oX12_window (of172 _) rfl
theorem dX12_window_65 : decode cX12_window 65 = .ok (.aload_n 0, 1) := dec_0 oX12_window (of42 _) rfl
theorem dX12_window_66 : decode cX12_window 66 = .ok (.iload_n 1, 1) := dec_0 oX12_window (of27 _) rfl
theorem dX12_window_67 : decode cX12_window 67 = .ok (.iload_n 2, 1) := dec_0 oX12_window (of28 _) rfl
theorem dX12_window_68 : decode cX12_window 68 = .ok (.invokevirtual 333, 3) := dec_2 oX12_window (of182 _) 1 77 rfl rfl
theorem dX12_window_71 : decode cX12_window 71 = .ok (.iload_n 2, 1) := dec_0 oX12_window (of28 _) rfl
theorem dX12_window_72 : decode cX12_window 72 = .ok (.invokestatic 261, 3) := dec_2 oX12_window (of184 _) 1 5 rfl rfl
theorem dX12_window_75 : decode cX12_window 75 = .ok (.ireturn, 1) := dec_0 oX12_window (of172 _) rfl
theorem dX12_window_76 : decode cX12_window 76 = .ok (.ldc_w 332, 3) := dec_2 oX12_window (of19 _) 1 76 rfl rfl
theorem dX12_window_79 : decode cX12_window 79 = .ok (.ireturn, 1) := dec_0 oX12_window (of172 _) rfl
theorem dX12_level_19 : decode cX12_level 19 = .ok (.iload_n 3, 1) := dec_0 oX12_level (of29 _) rfl
theorem dX12_level_20 : decode cX12_level 20 = .ok (.iconst 0, 1) := dec_0 oX12_level (of3 _) rfl
theorem dX12_level_21 : decode cX12_level 21 = .ok (.iload_n 2, 1) := dec_0 oX12_level (of28 _) rfl
theorem dX12_level_22 : decode cX12_level 22 = .ok (.iconst 1, 1) := dec_0 oX12_level (of4 _) rfl
theorem dX12_level_23 : decode cX12_level 23 = .ok (.isub, 1) := dec_0 oX12_level (of100 _) rfl
theorem dX12_level_24 : decode cX12_level 24 = .ok (.invokestatic 244, 3) := dec_2 oX12_level (of184 _) 0 244 rfl rfl
theorem dX12_level_27 : decode cX12_level 27 = .ok (.ifCond .ne 7, 3) := dec_s2 oX12_level (of154 _) 0 7 rfl (sg16p rfl) rfl
theorem dX12_level_34 : decode cX12_level 34 = .ok (.aload_n 0, 1) := dec_0 oX12_level (of42 _) rfl
theorem dX12_level_35 : decode cX12_level 35 = .ok (.invokevirtual 323, 3) := dec_2 oX12_level (of182 _) 1 67 rfl rfl
theorem dX12_level_38 : decode cX12_level 38 = .ok (.aload_n 0, 1) := dec_0 oX12_level (of42 _) rfl
theorem dX12_level_39 : decode cX12_level 39 = .ok (.iload_n 1, 1) := dec_0 oX12_level (of27 _) rfl
theorem dX12_level_40 : decode cX12_level 40 = .ok (.iload_n 2, 1) := dec_0 oX12_level (of28 _) rfl
theorem dX12_level_41 : decode cX12_level 41 = .ok (.invokevirtual 270, 3) := dec_2 oX12_level (of182 _) 1 14 rfl rfl
theorem dX12_level_44 : decode cX12_level 44 = .ok (.aload_n 0, 1) := dec_0 oX12_level (of42 _) rfl
theorem dX12_level_45 : decode cX12_level 45 = .ok (.getfield 76, 3) := dec_2 oX12_level (of180 _) 0 76 rfl rfl
theorem dX12_level_48 : decode cX12_level 48 = .ok (.iload_n 3, 1) := dec_0 oX12_level (of29 _) rfl
theorem dX12_level_49 : decode cX12_level 49 = .ok (.iaload, 1) := dec_0 oX12_level (of46 _) rfl
theorem dX12_level_50 : decode cX12_level 50 = .ok (.ireturn, 1) := dec_0 oX12_level (of172 _) rfl
theorem dX12_flat_27 : decode cX12_flat 27 = .ok (.aload_n 0, 1) := dec_0 oX12_flat (of42 _) rfl
theorem dX12_flat_28 : decode cX12_flat 28 = .ok (.iload_n 3, 1) := dec_0 oX12_flat (of29 _) rfl
theorem dX12_flat_29 : decode cX12_flat 29 = .ok (.iload_n 1, 1) := dec_0 oX12_flat (of27 _) rfl
theorem dX12_flat_30 : decode cX12_flat 30 = .ok (.invokevirtual 257, 3) := dec_2 oX12_flat (of182 _) 1 1 rfl rfl
theorem dX12_flat_33 : decode cX12_flat 33 = .ok (.ifCond .eq 21, 3) := dec_s2 oX12_flat (of153 _) 0 21 rfl (sg16p rfl) rfl
theorem dX12_flat_36 : decode cX12_flat 36 = .ok (.aload_n 0, 1) := dec_0 oX12_flat (of42 _) rfl
theorem dX12_flat_37 : decode cX12_flat 37 = .ok (.iload_n 3, 1) := dec_0 oX12_flat (of29 _) rfl
theorem dX12_flat_38 : decode cX12_flat 38 = .ok (.iload_n 1, 1) := dec_0 oX12_flat (of27 _) rfl
theorem dX12_flat_39 : decode cX12_flat 39 = .ok (.invokevirtual 336, 3) := dec_2 oX12_flat (of182 _) 1 80 rfl rfl
theorem dX12_flat_42 : decode cX12_flat 42 = .ok (.aload_n 0, 1) := dec_0 oX12_flat (of42 _) rfl
theorem dX12_flat_43 : decode cX12_flat 43 = .ok (.iload_n 3, 1) := dec_0 oX12_flat (of29 _) rfl
theorem dX12_flat_44 : decode cX12_flat 44 = .ok (.iload_n 1, 1) := dec_0 oX12_flat (of27 _) rfl
theorem dX12_flat_45 : decode cX12_flat 45 = .ok (.invokevirtual 339, 3) := dec_2 oX12_flat (of182 _) 1 83 rfl rfl
theorem dX12_flat_48 : decode cX12_flat 48 = .ok (.if_icmp .ne 6, 3) := dec_s2 oX12_flat (of160 _) 0 6 rfl (sg16p rfl) rfl
theorem dX12_flat_51 : decode cX12_flat 51 = .ok (.iinc 2 1, 3) := dec_ii oX12_flat (of132 _) 2 1 rfl (sg8p rfl) rfl
theorem dX12_flat_54 : decode cX12_flat 54 = .ok (.iinc 3 1, 3) := dec_ii oX12_flat (of132 _) 3 1 rfl (sg8p rfl) rfl
theorem dX12_flat_57 : decode cX12_flat 57 = .ok (.goto (-40), 3) := dec_s2 oX12_flat (of167 _) 255 216 rfl (sg16n (k := 40) rfl) rfl
theorem dX12_whole_31 : decode cX12_whole 31 = .ok (.iconst 0, 1) := dec_0 oX12_whole (of3 _) rfl
theorem dX12_whole_32 : decode cX12_whole 32 = .ok (.istore 5, 2) := dec_1 oX12_whole (of54 _) 5 rfl rfl
theorem dX12_whole_34 : decode cX12_whole 34 = .ok (.aload_n 0, 1) := dec_0 oX12_whole (of42 _) rfl
theorem dX12_whole_35 : decode cX12_whole 35 = .ok (.iload 4, 2) := dec_1 oX12_whole (of21 _) 4 rfl rfl
theorem dX12_whole_37 : decode cX12_whole 37 = .ok (.iload 5, 2) := dec_1 oX12_whole (of21 _) 5 rfl rfl
theorem dX12_whole_39 : decode cX12_whole 39 = .ok (.iadd, 1) := dec_0 oX12_whole (of96 _) rfl
theorem dX12_whole_40 : decode cX12_whole 40 = .ok (.invokevirtual 320, 3) := dec_2 oX12_whole (of182 _) 1 64 rfl rfl
theorem dX12_whole_43 : decode cX12_whole 43 = .ok (.ifCond .eq 9, 3) := dec_s2 oX12_whole (of153 _) 0 9 rfl (sg16p rfl) rfl
theorem dX12_whole_46 : decode cX12_whole 46 = .ok (.iinc 5 1, 3) := dec_ii oX12_whole (of132 _) 5 1 rfl (sg8p rfl) rfl
theorem dX12_whole_49 : decode cX12_whole 49 = .ok (.goto (-15), 3) := dec_s2 oX12_whole (of167 _) 255 241 rfl (sg16n (k := 15) rfl) rfl
theorem dX12_whole_52 : decode cX12_whole 52 = .ok (.iload 5, 2) := dec_1 oX12_whole (of21 _) 5 rfl rfl
theorem dX12_whole_54 : decode cX12_whole 54 = .ok (.ifCond .eq 18, 3) := dec_s2 oX12_whole (of153 _) 0 18 rfl (sg16p rfl) rfl
theorem dX12_whole_57 : decode cX12_whole 57 = .ok (.iload 5, 2) := dec_1 oX12_whole (of21 _) 5 rfl rfl
theorem dX12_whole_59 : decode cX12_whole 59 = .ok (.iload_n 3, 1) := dec_0 oX12_whole (of29 _) rfl
theorem dX12_whole_60 : decode cX12_whole 60 = .ok (.if_icmp .gt 6, 3) := dec_s2 oX12_whole (of163 _) 0 6 rfl (sg16p rfl) rfl
theorem dX12_whole_63 : decode cX12_whole 63 = .ok (.goto 9, 3) := dec_s2 oX12_whole (of167 _) 0 9 rfl (sg16p rfl) rfl
theorem dX12_whole_66 : decode cX12_whole 66 = .ok (.iload 4, 2) := dec_1 oX12_whole (of21 _) 4 rfl rfl
theorem dX12_whole_68 : decode cX12_whole 68 = .ok (.istore_n 2, 1) := dec_0 oX12_whole (of61 _) rfl
theorem dX12_whole_69 : decode cX12_whole 69 = .ok (.iload 5, 2) := dec_1 oX12_whole (of21 _) 5 rfl rfl
theorem dX12_whole_71 : decode cX12_whole 71 = .ok (.istore_n 3, 1) := dec_0 oX12_whole (of62 _) rfl
theorem dX12_whole_72 : decode cX12_whole 72 = .ok (.iinc 4 1, 3) := dec_ii oX12_whole (of132 _) 4 1 rfl (sg8p rfl) rfl
theorem dX12_whole_75 : decode cX12_whole 75 = .ok (.goto (-55), 3) := dec_s2 oX12_whole (of167 _) 255 201 rfl (sg16n (k := 55) rfl) rfl
theorem dX12_distance_11 : decode cX12_distance 11 = .ok (.aload_n 0, 1) := dec_0 oX12_distance (of42 _) rfl
theorem dX12_distance_12 : decode cX12_distance 12 = .ok (.invokevirtual 323, 3) := dec_2 oX12_distance (of182 _) 1 67 rfl rfl
theorem dX12_distance_15 : decode cX12_distance 15 = .ok (.aload_n 0, 1) := dec_0 oX12_distance (of42 _) rfl
theorem dX12_distance_16 : decode cX12_distance 16 = .ok (.iload_n 1, 1) := dec_0 oX12_distance (of27 _) rfl
theorem dX12_distance_17 : decode cX12_distance 17 = .ok (.iload_n 2, 1) := dec_0 oX12_distance (of28 _) rfl
theorem dX12_distance_18 : decode cX12_distance 18 = .ok (.invokevirtual 345, 3) := dec_2 oX12_distance (of182 _) 1 89 rfl rfl
theorem dX12_distance_21 : decode cX12_distance 21 = .ok (.ireturn, 1) := dec_0 oX12_distance (of172 _) rfl
theorem dX12_bound_9 : decode cX12_bound 9 = .ok (.iload_n 3, 1) := dec_0 oX12_bound (of29 _) rfl
theorem dX12_bound_10 : decode cX12_bound 10 = .ok (.iconst 0, 1) := dec_0 oX12_bound (of3 _) rfl
theorem dX12_bound_11 : decode cX12_bound 11 = .ok (.iconst 2, 1) := dec_0 oX12_bound (of5 _) rfl
theorem dX12_bound_12 : decode cX12_bound 12 = .ok (.invokestatic 244, 3) := dec_2 oX12_bound (of184 _) 0 244 rfl rfl
theorem dX12_bound_15 : decode cX12_bound 15 = .ok (.ifCond .ne 5, 3) := dec_s2 oX12_bound (of154 _) 0 5 rfl (sg16p rfl) rfl
theorem dX12_bound_20 : decode cX12_bound 20 = .ok (.aload_n 0, 1) := dec_0 oX12_bound (of42 _) rfl
theorem dX12_bound_21 : decode cX12_bound 21 = .ok (.invokevirtual 323, 3) := dec_2 oX12_bound (of182 _) 1 67 rfl rfl
theorem dX12_bound_24 : decode cX12_bound 24 = .ok (.aload_n 0, 1) := dec_0 oX12_bound (of42 _) rfl
theorem dX12_bound_25 : decode cX12_bound 25 = .ok (.iload_n 1, 1) := dec_0 oX12_bound (of27 _) rfl
theorem dX12_bound_26 : decode cX12_bound 26 = .ok (.iload_n 2, 1) := dec_0 oX12_bound (of28 _) rfl
theorem dX12_bound_27 : decode cX12_bound 27 = .ok (.invokevirtual 301, 3) := dec_2 oX12_bound (of182 _) 1 45 rfl rfl
theorem dX12_bound_30 : decode cX12_bound 30 = .ok (.iload_n 3, 1) := dec_0 oX12_bound (of29 _) rfl
theorem dX12_bound_31 : decode cX12_bound 31 = .ok (.ifCond .ne 10, 3) := dec_s2 oX12_bound (of154 _) 0 10 rfl (sg16p rfl) rfl
theorem dX12_bound_34 : decode cX12_bound 34 = .ok (.aload_n 0, 1) := dec_0 oX12_bound (of42 _) rfl
theorem dX12_bound_35 : decode cX12_bound 35 = .ok (.invokevirtual 314, 3) := dec_2 oX12_bound (of182 _) 1 58 rfl rfl
theorem dX12_bound_38 : decode cX12_bound 38 = .ok (.goto 19, 3) := dec_s2 oX12_bound (of167 _) 0 19 rfl (sg16p rfl) rfl
theorem dX12_bound_41 : decode cX12_bound 41 = .ok (.iload_n 3, 1) := dec_0 oX12_bound (of29 _) rfl
theorem dX12_bound_42 : decode cX12_bound 42 = .ok (.iconst 1, 1) := dec_0 oX12_bound (of4 _) rfl
theorem dX12_bound_43 : decode cX12_bound 43 = .ok (.if_icmp .ne 10, 3) := dec_s2 oX12_bound (of160 _) 0 10 rfl (sg16p rfl) rfl
theorem dX12_bound_46 : decode cX12_bound 46 = .ok (.aload_n 0, 1) := dec_0 oX12_bound (of42 _) rfl
theorem dX12_bound_47 : decode cX12_bound 47 = .ok (.invokevirtual 308, 3) := dec_2 oX12_bound (of182 _) 1 52 rfl rfl
theorem dX12_bound_50 : decode cX12_bound 50 = .ok (.goto 7, 3) := dec_s2 oX12_bound (of167 _) 0 7 rfl (sg16p rfl) rfl
theorem dX12_bound_53 : decode cX12_bound 53 = .ok (.aload_n 0, 1) := dec_0 oX12_bound (of42 _) rfl
theorem dX12_bound_54 : decode cX12_bound 54 = .ok (.invokevirtual 317, 3) := dec_2 oX12_bound (of182 _) 1 61 rfl rfl
theorem dX12_bound_57 : decode cX12_bound 57 = .ok (.ireturn, 1) := dec_0 oX12_bound (of172 _) rfl
theorem dX12_look_9 : decode cX12_look 9 = .ok (.iload_n 3, 1) := dec_0 oX12_look (of29 _) rfl
theorem dX12_look_10 : decode cX12_look 10 = .ok (.ifCond .lt 13, 3) := dec_s2 oX12_look (of155 _) 0 13 rfl (sg16p rfl) rfl
theorem dX12_look_13 : decode cX12_look 13 = .ok (.iload 4, 2) := dec_1 oX12_look (of21 _) 4 rfl rfl
theorem dX12_look_15 : decode cX12_look 15 = .ok (.iconst 0, 1) := dec_0 oX12_look (of3 _) rfl
theorem dX12_look_16 : decode cX12_look 16 = .ok (.iconst 2, 1) := dec_0 oX12_look (of5 _) rfl
theorem dX12_look_17 : decode cX12_look 17 = .ok (.invokestatic 244, 3) := dec_2 oX12_look (of184 _) 0 244 rfl rfl
theorem dX12_look_20 : decode cX12_look 20 = .ok (.ifCond .ne 5, 3) := dec_s2 oX12_look (of154 _) 0 5 rfl (sg16p rfl) rfl
theorem dX12_look_25 : decode cX12_look 25 = .ok (.aload_n 0, 1) := dec_0 oX12_look (of42 _) rfl
theorem dX12_look_26 : decode cX12_look 26 = .ok (.invokevirtual 323, 3) := dec_2 oX12_look (of182 _) 1 67 rfl rfl
theorem dX12_look_29 : decode cX12_look 29 = .ok (.aload_n 0, 1) := dec_0 oX12_look (of42 _) rfl
theorem dX12_look_30 : decode cX12_look 30 = .ok (.iload_n 1, 1) := dec_0 oX12_look (of27 _) rfl
theorem dX12_look_31 : decode cX12_look 31 = .ok (.iload_n 2, 1) := dec_0 oX12_look (of28 _) rfl
theorem dX12_look_32 : decode cX12_look 32 = .ok (.iload_n 3, 1) := dec_0 oX12_look (of29 _) rfl
theorem dX12_look_33 : decode cX12_look 33 = .ok (.invokevirtual 348, 3) := dec_2 oX12_look (of182 _) 1 92 rfl rfl
theorem dX12_look_36 : decode cX12_look 36 = .ok (.istore 5, 2) := dec_1 oX12_look (of54 _) 5 rfl rfl
theorem dX12_look_38 : decode cX12_look 38 = .ok (.iload 4, 2) := dec_1 oX12_look (of21 _) 4 rfl rfl
theorem dX12_look_40 : decode cX12_look 40 = .ok (.ifCond .ne 8, 3) := dec_s2 oX12_look (of154 _) 0 8 rfl (sg16p rfl) rfl
theorem dX12_look_43 : decode cX12_look 43 = .ok (.iload 5, 2) := dec_1 oX12_look (of21 _) 5 rfl rfl
theorem dX12_look_45 : decode cX12_look 45 = .ok (.goto 32, 3) := dec_s2 oX12_look (of167 _) 0 32 rfl (sg16p rfl) rfl
theorem dX12_look_48 : decode cX12_look 48 = .ok (.iload 4, 2) := dec_1 oX12_look (of21 _) 4 rfl rfl
theorem dX12_look_50 : decode cX12_look 50 = .ok (.iconst 1, 1) := dec_0 oX12_look (of4 _) rfl
theorem dX12_look_51 : decode cX12_look 51 = .ok (.if_icmp .ne 10, 3) := dec_s2 oX12_look (of160 _) 0 10 rfl (sg16p rfl) rfl
theorem dX12_look_54 : decode cX12_look 54 = .ok (.aload_n 0, 1) := dec_0 oX12_look (of42 _) rfl
theorem dX12_look_55 : decode cX12_look 55 = .ok (.getfield 292, 3) := dec_2 oX12_look (of180 _) 1 36 rfl rfl
theorem dX12_look_58 : decode cX12_look 58 = .ok (.goto 19, 3) := dec_s2 oX12_look (of167 _) 0 19 rfl (sg16p rfl) rfl
theorem dX12_look_61 : decode cX12_look 61 = .ok (.aload_n 0, 1) := dec_0 oX12_look (of42 _) rfl
theorem dX12_look_62 : decode cX12_look 62 = .ok (.getfield 295, 3) := dec_2 oX12_look (of180 _) 1 39 rfl rfl
theorem dX12_look_65 : decode cX12_look 65 = .ok (.ifCond .lt 10, 3) := dec_s2 oX12_look (of155 _) 0 10 rfl (sg16p rfl) rfl
theorem dX12_look_68 : decode cX12_look 68 = .ok (.aload_n 0, 1) := dec_0 oX12_look (of42 _) rfl
theorem dX12_look_69 : decode cX12_look 69 = .ok (.getfield 295, 3) := dec_2 oX12_look (of180 _) 1 39 rfl rfl
theorem dX12_look_72 : decode cX12_look 72 = .ok (.goto 5, 3) := dec_s2 oX12_look (of167 _) 0 5 rfl (sg16p rfl) rfl
theorem dX12_look_75 : decode cX12_look 75 = .ok (.bipush (-2), 2) := dec_s1 oX12_look (of16 _) 254 rfl (sg8n (k := 2) rfl) rfl
theorem dX12_look_77 : decode cX12_look 77 = .ok (.ireturn, 1) := dec_0 oX12_look (of172 _) rfl
theorem dX12_alike_8 : decode cX12_alike 8 = .ok (.aload_n 0, 1) := dec_0 oX12_alike (of42 _) rfl
theorem dX12_alike_9 : decode cX12_alike 9 = .ok (.iload_n 2, 1) := dec_0 oX12_alike (of28 _) rfl
theorem dX12_alike_10 : decode cX12_alike 10 = .ok (.invokevirtual 251, 3) := dec_2 oX12_alike (of182 _) 0 251 rfl rfl
theorem dX12_alike_13 : decode cX12_alike 13 = .ok (.ifCond .ne 5, 3) := dec_s2 oX12_alike (of154 _) 0 5 rfl (sg16p rfl) rfl
theorem dX12_alike_18 : decode cX12_alike 18 = .ok (.aload_n 0, 1) := dec_0 oX12_alike (of42 _) rfl
theorem dX12_alike_19 : decode cX12_alike 19 = .ok (.iload_n 1, 1) := dec_0 oX12_alike (of27 _) rfl
theorem dX12_alike_20 : decode cX12_alike 20 = .ok (.invokevirtual 254, 3) := dec_2 oX12_alike (of182 _) 0 254 rfl rfl
theorem dX12_alike_23 : decode cX12_alike 23 = .ok (.aload_n 0, 1) := dec_0 oX12_alike (of42 _) rfl
theorem dX12_alike_24 : decode cX12_alike 24 = .ok (.iload_n 2, 1) := dec_0 oX12_alike (of28 _) rfl
theorem dX12_alike_25 : decode cX12_alike 25 = .ok (.invokevirtual 254, 3) := dec_2 oX12_alike (of182 _) 0 254 rfl rfl
theorem dX12_alike_28 : decode cX12_alike 28 = .ok (.if_icmp .eq 6, 3) := dec_s2 oX12_alike (of159 _) 0 6 rfl (sg16p rfl) rfl
theorem dX12_alike_31 : decode cX12_alike 31 = .ok (.bipush (-2), 2) := dec_s1 oX12_alike (of16 _) 254 rfl (sg8n (k := 2) rfl) rfl
theorem dX12_alike_33 : decode cX12_alike 33 = .ok (.ireturn, 1) := dec_0 oX12_alike (of172 _) rfl
theorem dX12_alike_34 : decode cX12_alike 34 = .ok (.aload_n 0, 1) := dec_0 oX12_alike (of42 _) rfl
theorem dX12_alike_35 : decode cX12_alike 35 = .ok (.invokevirtual 323, 3) := dec_2 oX12_alike (of182 _) 1 67 rfl rfl
theorem dX12_alike_38 : decode cX12_alike 38 = .ok (.aload_n 0, 1) := dec_0 oX12_alike (of42 _) rfl
theorem dX12_alike_39 : decode cX12_alike 39 = .ok (.aload_n 0, 1) := dec_0 oX12_alike (of42 _) rfl
theorem dX12_alike_40 : decode cX12_alike 40 = .ok (.iload_n 1, 1) := dec_0 oX12_alike (of27 _) rfl
theorem dX12_alike_41 : decode cX12_alike 41 = .ok (.invokevirtual 254, 3) := dec_2 oX12_alike (of182 _) 0 254 rfl rfl
theorem dX12_alike_44 : decode cX12_alike 44 = .ok (.putfield 267, 3) := dec_2 oX12_alike (of181 _) 1 11 rfl rfl
theorem dX12_alike_47 : decode cX12_alike 47 = .ok (.aload_n 0, 1) := dec_0 oX12_alike (of42 _) rfl
theorem dX12_alike_48 : decode cX12_alike 48 = .ok (.iload_n 2, 1) := dec_0 oX12_alike (of28 _) rfl
theorem dX12_alike_49 : decode cX12_alike 49 = .ok (.invokevirtual 276, 3) := dec_2 oX12_alike (of182 _) 1 20 rfl rfl
theorem dX12_alike_52 : decode cX12_alike 52 = .ok (.aload_n 0, 1) := dec_0 oX12_alike (of42 _) rfl
theorem dX12_alike_53 : decode cX12_alike 53 = .ok (.aload_n 0, 1) := dec_0 oX12_alike (of42 _) rfl
theorem dX12_alike_54 : decode cX12_alike 54 = .ok (.getfield 267, 3) := dec_2 oX12_alike (of180 _) 1 11 rfl rfl
theorem dX12_alike_57 : decode cX12_alike 57 = .ok (.invokevirtual 273, 3) := dec_2 oX12_alike (of182 _) 1 17 rfl rfl
theorem dX12_alike_60 : decode cX12_alike 60 = .ok (.aload_n 0, 1) := dec_0 oX12_alike (of42 _) rfl
theorem dX12_alike_61 : decode cX12_alike 61 = .ok (.iload_n 1, 1) := dec_0 oX12_alike (of27 _) rfl
theorem dX12_alike_62 : decode cX12_alike 62 = .ok (.invokevirtual 276, 3) := dec_2 oX12_alike (of182 _) 1 20 rfl rfl
theorem dX12_alike_65 : decode cX12_alike 65 = .ok (.aload_n 0, 1) := dec_0 oX12_alike (of42 _) rfl
theorem dX12_alike_66 : decode cX12_alike 66 = .ok (.ldc_w 282, 3) := dec_2 oX12_alike (of19 _) 1 26 rfl rfl
theorem dX12_alike_69 : decode cX12_alike 69 = .ok (.invokevirtual 304, 3) := dec_2 oX12_alike (of182 _) 1 48 rfl rfl
theorem dX12_alike_72 : decode cX12_alike 72 = .ok (.ireturn, 1) := dec_0 oX12_alike (of172 _) rfl
theorem dX12_fillsWay_0 : decode cX12_fillsWay 0 = .ok (.aload_n 0, 1) := dec_0 oX12_fillsWay (of42 _) rfl
theorem dX12_fillsWay_1 : decode cX12_fillsWay 1 = .ok (.getfield 267, 3) := dec_2 oX12_fillsWay (of180 _) 1 11 rfl rfl
theorem dX12_fillsWay_4 : decode cX12_fillsWay 4 = .ok (.iconst 1, 1) := dec_0 oX12_fillsWay (of4 _) rfl
theorem dX12_fillsWay_5 : decode cX12_fillsWay 5 = .ok (.isub, 1) := dec_0 oX12_fillsWay (of100 _) rfl
theorem dX12_fillsWay_6 : decode cX12_fillsWay 6 = .ok (.istore_n 1, 1) := dec_0 oX12_fillsWay (of60 _) rfl
theorem dX12_fillsWay_7 : decode cX12_fillsWay 7 = .ok (.aload_n 0, 1) := dec_0 oX12_fillsWay (of42 _) rfl
theorem dX12_fillsWay_8 : decode cX12_fillsWay 8 = .ok (.getfield 267, 3) := dec_2 oX12_fillsWay (of180 _) 1 11 rfl rfl
theorem dX12_fillsWay_11 : decode cX12_fillsWay 11 = .ok (.iconst 1, 1) := dec_0 oX12_fillsWay (of4 _) rfl
theorem dX12_fillsWay_12 : decode cX12_fillsWay 12 = .ok (.isub, 1) := dec_0 oX12_fillsWay (of100 _) rfl
theorem dX12_fillsWay_13 : decode cX12_fillsWay 13 = .ok (.istore_n 2, 1) := dec_0 oX12_fillsWay (of61 _) rfl
theorem dX12_fillsWay_14 : decode cX12_fillsWay 14 = .ok (.aload_n 0, 1) := dec_0 oX12_fillsWay (of42 _) rfl
theorem dX12_fillsWay_15 : decode cX12_fillsWay 15 = .ok (.iconst 0, 1) := dec_0 oX12_fillsWay (of3 _) rfl
theorem dX12_fillsWay_16 : decode cX12_fillsWay 16 = .ok (.putfield 351, 3) := dec_2 oX12_fillsWay (of181 _) 1 95 rfl rfl
theorem dX12_fillsWay_19 : decode cX12_fillsWay 19 = .ok (.iload_n 1, 1) := dec_0 oX12_fillsWay (of27 _) rfl
theorem dX12_fillsWay_20 : decode cX12_fillsWay 20 = .ok (.ifCond .lt 125, 3) := dec_s2 oX12_fillsWay (of155 _) 0 125 rfl (sg16p rfl) rfl
theorem dX12_fillsWay_23 : decode cX12_fillsWay 23 = .ok (.iload_n 2, 1) := dec_0 oX12_fillsWay (of28 _) rfl
theorem dX12_fillsWay_24 : decode cX12_fillsWay 24 = .ok (.ifCond .lt 121, 3) := dec_s2 oX12_fillsWay (of155 _) 0 121 rfl (sg16p rfl) rfl
theorem dX12_fillsWay_27 : decode cX12_fillsWay 27 = .ok (.aload_n 0, 1) := dec_0 oX12_fillsWay (of42 _) rfl
theorem dX12_fillsWay_28 : decode cX12_fillsWay 28 = .ok (.getfield 88, 3) := dec_2 oX12_fillsWay (of180 _) 0 88 rfl rfl
theorem dX12_fillsWay_31 : decode cX12_fillsWay 31 = .ok (.aload_n 0, 1) := dec_0 oX12_fillsWay (of42 _) rfl
theorem dX12_fillsWay_32 : decode cX12_fillsWay 32 = .ok (.getfield 351, 3) := dec_2 oX12_fillsWay (of180 _) 1 95 rfl rfl
theorem dX12_fillsWay_35 : decode cX12_fillsWay 35 = .ok (.bipush 100, 2) := dec_s1 oX12_fillsWay (of16 _) 100 rfl (sg8p rfl) rfl
theorem dX12_fillsWay_37 : decode cX12_fillsWay 37 = .ok (.iload_n 1, 1) := dec_0 oX12_fillsWay (of27 _) rfl
theorem dX12_fillsWay_38 : decode cX12_fillsWay 38 = .ok (.imul, 1) := dec_0 oX12_fillsWay (of104 _) rfl
theorem dX12_fillsWay_39 : decode cX12_fillsWay 39 = .ok (.iload_n 2, 1) := dec_0 oX12_fillsWay (of28 _) rfl
theorem dX12_fillsWay_40 : decode cX12_fillsWay 40 = .ok (.iadd, 1) := dec_0 oX12_fillsWay (of96 _) rfl
theorem dX12_fillsWay_41 : decode cX12_fillsWay 41 = .ok (.iastore, 1) := dec_0 oX12_fillsWay (of79 _) rfl
theorem dX12_fillsWay_42 : decode cX12_fillsWay 42 = .ok (.aload_n 0, 1) := dec_0 oX12_fillsWay (of42 _) rfl
theorem dX12_fillsWay_43 : decode cX12_fillsWay 43 = .ok (.dup, 1) := dec_0 oX12_fillsWay (of89 _) rfl
theorem dX12_fillsWay_44 : decode cX12_fillsWay 44 = .ok (.getfield 351, 3) := dec_2 oX12_fillsWay (of180 _) 1 95 rfl rfl
theorem dX12_fillsWay_47 : decode cX12_fillsWay 47 = .ok (.iconst 1, 1) := dec_0 oX12_fillsWay (of4 _) rfl
theorem dX12_fillsWay_48 : decode cX12_fillsWay 48 = .ok (.iadd, 1) := dec_0 oX12_fillsWay (of96 _) rfl
theorem dX12_fillsWay_49 : decode cX12_fillsWay 49 = .ok (.putfield 351, 3) := dec_2 oX12_fillsWay (of181 _) 1 95 rfl rfl
theorem dX12_fillsWay_52 : decode cX12_fillsWay 52 = .ok (.aload_n 0, 1) := dec_0 oX12_fillsWay (of42 _) rfl
theorem dX12_fillsWay_53 : decode cX12_fillsWay 53 = .ok (.iload_n 1, 1) := dec_0 oX12_fillsWay (of27 _) rfl
theorem dX12_fillsWay_54 : decode cX12_fillsWay 54 = .ok (.iconst 1, 1) := dec_0 oX12_fillsWay (of4 _) rfl
theorem dX12_fillsWay_55 : decode cX12_fillsWay 55 = .ok (.isub, 1) := dec_0 oX12_fillsWay (of100 _) rfl
theorem dX12_fillsWay_56 : decode cX12_fillsWay 56 = .ok (.iload_n 2, 1) := dec_0 oX12_fillsWay (of28 _) rfl
theorem dX12_fillsWay_57 : decode cX12_fillsWay 57 = .ok (.iconst 1, 1) := dec_0 oX12_fillsWay (of4 _) rfl
theorem dX12_fillsWay_58 : decode cX12_fillsWay 58 = .ok (.isub, 1) := dec_0 oX12_fillsWay (of100 _) rfl
theorem dX12_fillsWay_59 : decode cX12_fillsWay 59 = .ok (.invokevirtual 283, 3) := dec_2 oX12_fillsWay (of182 _) 1 27 rfl rfl
theorem dX12_fillsWay_62 : decode cX12_fillsWay 62 = .ok (.istore_n 3, 1) := dec_0 oX12_fillsWay (of62 _) rfl
theorem dX12_fillsWay_63 : decode cX12_fillsWay 63 = .ok (.aload_n 0, 1) := dec_0 oX12_fillsWay (of42 _) rfl
theorem dX12_fillsWay_64 : decode cX12_fillsWay 64 = .ok (.iload_n 1, 1) := dec_0 oX12_fillsWay (of27 _) rfl
theorem dX12_fillsWay_65 : decode cX12_fillsWay 65 = .ok (.iconst 1, 1) := dec_0 oX12_fillsWay (of4 _) rfl
theorem dX12_fillsWay_66 : decode cX12_fillsWay 66 = .ok (.isub, 1) := dec_0 oX12_fillsWay (of100 _) rfl
theorem dX12_fillsWay_67 : decode cX12_fillsWay 67 = .ok (.iload_n 2, 1) := dec_0 oX12_fillsWay (of28 _) rfl
theorem dX12_fillsWay_68 : decode cX12_fillsWay 68 = .ok (.invokevirtual 283, 3) := dec_2 oX12_fillsWay (of182 _) 1 27 rfl rfl
theorem dX12_fillsWay_71 : decode cX12_fillsWay 71 = .ok (.istore 4, 2) := dec_1 oX12_fillsWay (of54 _) 4 rfl rfl
theorem dX12_fillsWay_73 : decode cX12_fillsWay 73 = .ok (.aload_n 0, 1) := dec_0 oX12_fillsWay (of42 _) rfl
theorem dX12_fillsWay_74 : decode cX12_fillsWay 74 = .ok (.iload_n 1, 1) := dec_0 oX12_fillsWay (of27 _) rfl
theorem dX12_fillsWay_75 : decode cX12_fillsWay 75 = .ok (.iload_n 2, 1) := dec_0 oX12_fillsWay (of28 _) rfl
theorem dX12_fillsWay_76 : decode cX12_fillsWay 76 = .ok (.iconst 1, 1) := dec_0 oX12_fillsWay (of4 _) rfl
theorem dX12_fillsWay_77 : decode cX12_fillsWay 77 = .ok (.isub, 1) := dec_0 oX12_fillsWay (of100 _) rfl
theorem dX12_fillsWay_78 : decode cX12_fillsWay 78 = .ok (.invokevirtual 283, 3) := dec_2 oX12_fillsWay (of182 _) 1 27 rfl rfl
theorem dX12_fillsWay_81 : decode cX12_fillsWay 81 = .ok (.istore 5, 2) := dec_1 oX12_fillsWay (of54 _) 5 rfl rfl
theorem dX12_fillsWay_83 : decode cX12_fillsWay 83 = .ok (.iload_n 3, 1) := dec_0 oX12_fillsWay (of29 _) rfl
theorem dX12_fillsWay_84 : decode cX12_fillsWay 84 = .ok (.iload 4, 2) := dec_1 oX12_fillsWay (of21 _) 4 rfl rfl
theorem dX12_fillsWay_86 : decode cX12_fillsWay 86 = .ok (.if_icmp .gt 13, 3) := dec_s2 oX12_fillsWay (of163 _) 0 13 rfl (sg16p rfl) rfl
theorem dX12_fillsWay_89 : decode cX12_fillsWay 89 = .ok (.iload_n 3, 1) := dec_0 oX12_fillsWay (of29 _) rfl
theorem dX12_fillsWay_90 : decode cX12_fillsWay 90 = .ok (.iload 5, 2) := dec_1 oX12_fillsWay (of21 _) 5 rfl rfl
theorem dX12_fillsWay_92 : decode cX12_fillsWay 92 = .ok (.if_icmp .gt 7, 3) := dec_s2 oX12_fillsWay (of163 _) 0 7 rfl (sg16p rfl) rfl
theorem dX12_fillsWay_95 : decode cX12_fillsWay 95 = .ok (.iconst 1, 1) := dec_0 oX12_fillsWay (of4 _) rfl
theorem dX12_fillsWay_96 : decode cX12_fillsWay 96 = .ok (.goto 4, 3) := dec_s2 oX12_fillsWay (of167 _) 0 4 rfl (sg16p rfl) rfl
theorem dX12_fillsWay_99 : decode cX12_fillsWay 99 = .ok (.iconst 0, 1) := dec_0 oX12_fillsWay (of3 _) rfl
theorem dX12_fillsWay_100 : decode cX12_fillsWay 100 = .ok (.istore 6, 2) := dec_1 oX12_fillsWay (of54 _) 6 rfl rfl
theorem dX12_fillsWay_102 : decode cX12_fillsWay 102 = .ok (.iload 4, 2) := dec_1 oX12_fillsWay (of21 _) 4 rfl rfl
theorem dX12_fillsWay_104 : decode cX12_fillsWay 104 = .ok (.iload 5, 2) := dec_1 oX12_fillsWay (of21 _) 5 rfl rfl
theorem dX12_fillsWay_106 : decode cX12_fillsWay 106 = .ok (.if_icmp .gt 7, 3) := dec_s2 oX12_fillsWay (of163 _) 0 7 rfl (sg16p rfl) rfl
theorem dX12_fillsWay_109 : decode cX12_fillsWay 109 = .ok (.iconst 1, 1) := dec_0 oX12_fillsWay (of4 _) rfl
theorem dX12_fillsWay_110 : decode cX12_fillsWay 110 = .ok (.goto 4, 3) := dec_s2 oX12_fillsWay (of167 _) 0 4 rfl (sg16p rfl) rfl
theorem dX12_fillsWay_113 : decode cX12_fillsWay 113 = .ok (.iconst 0, 1) := dec_0 oX12_fillsWay (of3 _) rfl
theorem dX12_fillsWay_114 : decode cX12_fillsWay 114 = .ok (.istore 7, 2) := dec_1 oX12_fillsWay (of54 _) 7 rfl rfl
theorem dX12_fillsWay_116 : decode cX12_fillsWay 116 = .ok (.iload 6, 2) := dec_1 oX12_fillsWay (of21 _) 6 rfl rfl
theorem dX12_fillsWay_118 : decode cX12_fillsWay 118 = .ok (.ifCond .ne 8, 3) := dec_s2 oX12_fillsWay (of154 _) 0 8 rfl (sg16p rfl) rfl
theorem dX12_fillsWay_121 : decode cX12_fillsWay 121 = .ok (.iload 7, 2) := dec_1 oX12_fillsWay (of21 _) 7 rfl rfl
theorem dX12_fillsWay_123 : decode cX12_fillsWay 123 = .ok (.ifCond .eq 6, 3) := dec_s2 oX12_fillsWay (of153 _) 0 6 rfl (sg16p rfl) rfl
theorem dX12_fillsWay_126 : decode cX12_fillsWay 126 = .ok (.iinc 1 (-1), 3) := dec_ii oX12_fillsWay (of132 _) 1 255 rfl (sg8n (k := 1) rfl) rfl
theorem dX12_fillsWay_129 : decode cX12_fillsWay 129 = .ok (.iload 6, 2) := dec_1 oX12_fillsWay (of21 _) 6 rfl rfl
theorem dX12_fillsWay_131 : decode cX12_fillsWay 131 = .ok (.ifCond .ne 8, 3) := dec_s2 oX12_fillsWay (of154 _) 0 8 rfl (sg16p rfl) rfl
theorem dX12_fillsWay_134 : decode cX12_fillsWay 134 = .ok (.iload 7, 2) := dec_1 oX12_fillsWay (of21 _) 7 rfl rfl
theorem dX12_fillsWay_136 : decode cX12_fillsWay 136 = .ok (.ifCond .ne 6, 3) := dec_s2 oX12_fillsWay (of154 _) 0 6 rfl (sg16p rfl) rfl
theorem dX12_fillsWay_139 : decode cX12_fillsWay 139 = .ok (.iinc 2 (-1), 3) := dec_ii oX12_fillsWay (of132 _) 2 255 rfl (sg8n (k := 1) rfl) rfl
theorem dX12_fillsWay_142 : decode cX12_fillsWay 142 = .ok (.goto (-123), 3) := dec_s2 oX12_fillsWay (of167 _) 255 133 rfl (sg16n (k := 123) rfl) rfl
theorem dX12_fillsWay_145 : decode cX12_fillsWay 145 = .ok (.return_, 1) := dec_0 oX12_fillsWay (of177 _) rfl
theorem dX12_way_9 : decode cX12_way 9 = .ok (.iload_n 3, 1) := dec_0 oX12_way (of29 _) rfl
theorem dX12_way_10 : decode cX12_way 10 = .ok (.iconst (-1), 1) := dec_0 oX12_way (of2 _) rfl
theorem dX12_way_11 : decode cX12_way 11 = .ok (.if_icmp .ge 5, 3) := dec_s2 oX12_way (of162 _) 0 5 rfl (sg16p rfl) rfl
theorem dX12_way_16 : decode cX12_way 16 = .ok (.aload_n 0, 1) := dec_0 oX12_way (of42 _) rfl
theorem dX12_way_17 : decode cX12_way 17 = .ok (.invokevirtual 323, 3) := dec_2 oX12_way (of182 _) 1 67 rfl rfl
theorem dX12_way_20 : decode cX12_way 20 = .ok (.aload_n 0, 1) := dec_0 oX12_way (of42 _) rfl
theorem dX12_way_21 : decode cX12_way 21 = .ok (.iload_n 1, 1) := dec_0 oX12_way (of27 _) rfl
theorem dX12_way_22 : decode cX12_way 22 = .ok (.iload_n 2, 1) := dec_0 oX12_way (of28 _) rfl
theorem dX12_way_23 : decode cX12_way 23 = .ok (.invokevirtual 345, 3) := dec_2 oX12_way (of182 _) 1 89 rfl rfl
theorem dX12_way_26 : decode cX12_way 26 = .ok (.pop, 1) := dec_0 oX12_way (of87 _) rfl
theorem dX12_way_27 : decode cX12_way 27 = .ok (.aload_n 0, 1) := dec_0 oX12_way (of42 _) rfl
theorem dX12_way_28 : decode cX12_way 28 = .ok (.invokevirtual 354, 3) := dec_2 oX12_way (of182 _) 1 98 rfl rfl
theorem dX12_way_31 : decode cX12_way 31 = .ok (.iload_n 3, 1) := dec_0 oX12_way (of29 _) rfl
theorem dX12_way_32 : decode cX12_way 32 = .ok (.iconst (-1), 1) := dec_0 oX12_way (of2 _) rfl
theorem dX12_way_33 : decode cX12_way 33 = .ok (.if_icmp .ne 10, 3) := dec_s2 oX12_way (of160 _) 0 10 rfl (sg16p rfl) rfl
theorem dX12_way_36 : decode cX12_way 36 = .ok (.aload_n 0, 1) := dec_0 oX12_way (of42 _) rfl
theorem dX12_way_37 : decode cX12_way 37 = .ok (.getfield 351, 3) := dec_2 oX12_way (of180 _) 1 95 rfl rfl
theorem dX12_way_40 : decode cX12_way 40 = .ok (.goto 28, 3) := dec_s2 oX12_way (of167 _) 0 28 rfl (sg16p rfl) rfl
theorem dX12_way_43 : decode cX12_way 43 = .ok (.iload_n 3, 1) := dec_0 oX12_way (of29 _) rfl
theorem dX12_way_44 : decode cX12_way 44 = .ok (.aload_n 0, 1) := dec_0 oX12_way (of42 _) rfl
theorem dX12_way_45 : decode cX12_way 45 = .ok (.getfield 351, 3) := dec_2 oX12_way (of180 _) 1 95 rfl rfl
theorem dX12_way_48 : decode cX12_way 48 = .ok (.if_icmp .ge 19, 3) := dec_s2 oX12_way (of162 _) 0 19 rfl (sg16p rfl) rfl
theorem dX12_way_51 : decode cX12_way 51 = .ok (.aload_n 0, 1) := dec_0 oX12_way (of42 _) rfl
theorem dX12_way_52 : decode cX12_way 52 = .ok (.getfield 88, 3) := dec_2 oX12_way (of180 _) 0 88 rfl rfl
theorem dX12_way_55 : decode cX12_way 55 = .ok (.aload_n 0, 1) := dec_0 oX12_way (of42 _) rfl
theorem dX12_way_56 : decode cX12_way 56 = .ok (.getfield 351, 3) := dec_2 oX12_way (of180 _) 1 95 rfl rfl
theorem dX12_way_59 : decode cX12_way 59 = .ok (.iconst 1, 1) := dec_0 oX12_way (of4 _) rfl
theorem dX12_way_60 : decode cX12_way 60 = .ok (.isub, 1) := dec_0 oX12_way (of100 _) rfl
theorem dX12_way_61 : decode cX12_way 61 = .ok (.iload_n 3, 1) := dec_0 oX12_way (of29 _) rfl
theorem dX12_way_62 : decode cX12_way 62 = .ok (.isub, 1) := dec_0 oX12_way (of100 _) rfl
theorem dX12_way_63 : decode cX12_way 63 = .ok (.iaload, 1) := dec_0 oX12_way (of46 _) rfl
theorem dX12_way_64 : decode cX12_way 64 = .ok (.goto 4, 3) := dec_s2 oX12_way (of167 _) 0 4 rfl (sg16p rfl) rfl
theorem dX12_way_67 : decode cX12_way 67 = .ok (.iconst (-1), 1) := dec_0 oX12_way (of2 _) rfl
theorem dX12_way_68 : decode cX12_way 68 = .ok (.ireturn, 1) := dec_0 oX12_way (of172 _) rfl
theorem dX12_lean_9 : decode cX12_lean 9 = .ok (.iload_n 3, 1) := dec_0 oX12_lean (of29 _) rfl
theorem dX12_lean_10 : decode cX12_lean 10 = .ok (.iconst 0, 1) := dec_0 oX12_lean (of3 _) rfl
theorem dX12_lean_11 : decode cX12_lean 11 = .ok (.iconst 1, 1) := dec_0 oX12_lean (of4 _) rfl
theorem dX12_lean_12 : decode cX12_lean 12 = .ok (.invokestatic 244, 3) := dec_2 oX12_lean (of184 _) 0 244 rfl rfl
theorem dX12_lean_15 : decode cX12_lean 15 = .ok (.ifCond .ne 5, 3) := dec_s2 oX12_lean (of154 _) 0 5 rfl (sg16p rfl) rfl
theorem dX12_lean_20 : decode cX12_lean 20 = .ok (.aload_n 0, 1) := dec_0 oX12_lean (of42 _) rfl
theorem dX12_lean_21 : decode cX12_lean 21 = .ok (.invokevirtual 323, 3) := dec_2 oX12_lean (of182 _) 1 67 rfl rfl
theorem dX12_lean_24 : decode cX12_lean 24 = .ok (.aload_n 0, 1) := dec_0 oX12_lean (of42 _) rfl
theorem dX12_lean_25 : decode cX12_lean 25 = .ok (.iload_n 1, 1) := dec_0 oX12_lean (of27 _) rfl
theorem dX12_lean_26 : decode cX12_lean 26 = .ok (.iload_n 2, 1) := dec_0 oX12_lean (of28 _) rfl
theorem dX12_lean_27 : decode cX12_lean 27 = .ok (.invokevirtual 345, 3) := dec_2 oX12_lean (of182 _) 1 89 rfl rfl
theorem dX12_lean_30 : decode cX12_lean 30 = .ok (.pop, 1) := dec_0 oX12_lean (of87 _) rfl
theorem dX12_lean_31 : decode cX12_lean 31 = .ok (.aload_n 0, 1) := dec_0 oX12_lean (of42 _) rfl
theorem dX12_lean_32 : decode cX12_lean 32 = .ok (.invokevirtual 354, 3) := dec_2 oX12_lean (of182 _) 1 98 rfl rfl
theorem dX12_lean_35 : decode cX12_lean 35 = .ok (.iconst 0, 1) := dec_0 oX12_lean (of3 _) rfl
theorem dX12_lean_36 : decode cX12_lean 36 = .ok (.istore 4, 2) := dec_1 oX12_lean (of54 _) 4 rfl rfl
theorem dX12_lean_38 : decode cX12_lean 38 = .ok (.iconst 0, 1) := dec_0 oX12_lean (of3 _) rfl
theorem dX12_lean_39 : decode cX12_lean 39 = .ok (.istore 5, 2) := dec_1 oX12_lean (of54 _) 5 rfl rfl
theorem dX12_lean_41 : decode cX12_lean 41 = .ok (.iconst 0, 1) := dec_0 oX12_lean (of3 _) rfl
theorem dX12_lean_42 : decode cX12_lean 42 = .ok (.istore 6, 2) := dec_1 oX12_lean (of54 _) 6 rfl rfl
theorem dX12_lean_44 : decode cX12_lean 44 = .ok (.iload 6, 2) := dec_1 oX12_lean (of21 _) 6 rfl rfl
theorem dX12_lean_46 : decode cX12_lean 46 = .ok (.aload_n 0, 1) := dec_0 oX12_lean (of42 _) rfl
theorem dX12_lean_47 : decode cX12_lean 47 = .ok (.getfield 351, 3) := dec_2 oX12_lean (of180 _) 1 95 rfl rfl
theorem dX12_lean_50 : decode cX12_lean 50 = .ok (.if_icmp .ge 83, 3) := dec_s2 oX12_lean (of162 _) 0 83 rfl (sg16p rfl) rfl
theorem dX12_lean_53 : decode cX12_lean 53 = .ok (.aload_n 0, 1) := dec_0 oX12_lean (of42 _) rfl
theorem dX12_lean_54 : decode cX12_lean 54 = .ok (.getfield 88, 3) := dec_2 oX12_lean (of180 _) 0 88 rfl rfl
theorem dX12_lean_57 : decode cX12_lean 57 = .ok (.iload 6, 2) := dec_1 oX12_lean (of21 _) 6 rfl rfl
theorem dX12_lean_59 : decode cX12_lean 59 = .ok (.iaload, 1) := dec_0 oX12_lean (of46 _) rfl
theorem dX12_lean_60 : decode cX12_lean 60 = .ok (.bipush 100, 2) := dec_s1 oX12_lean (of16 _) 100 rfl (sg8p rfl) rfl
theorem dX12_lean_62 : decode cX12_lean 62 = .ok (.idiv, 1) := dec_0 oX12_lean (of108 _) rfl
theorem dX12_lean_63 : decode cX12_lean 63 = .ok (.aload_n 0, 1) := dec_0 oX12_lean (of42 _) rfl
theorem dX12_lean_64 : decode cX12_lean 64 = .ok (.getfield 88, 3) := dec_2 oX12_lean (of180 _) 0 88 rfl rfl
theorem dX12_lean_67 : decode cX12_lean 67 = .ok (.iload 6, 2) := dec_1 oX12_lean (of21 _) 6 rfl rfl
theorem dX12_lean_69 : decode cX12_lean 69 = .ok (.iaload, 1) := dec_0 oX12_lean (of46 _) rfl
theorem dX12_lean_70 : decode cX12_lean 70 = .ok (.bipush 100, 2) := dec_s1 oX12_lean (of16 _) 100 rfl (sg8p rfl) rfl
theorem dX12_lean_72 : decode cX12_lean 72 = .ok (.irem, 1) := dec_0 oX12_lean (of112 _) rfl
theorem dX12_lean_73 : decode cX12_lean 73 = .ok (.isub, 1) := dec_0 oX12_lean (of100 _) rfl
theorem dX12_lean_74 : decode cX12_lean 74 = .ok (.istore 7, 2) := dec_1 oX12_lean (of54 _) 7 rfl rfl
theorem dX12_lean_76 : decode cX12_lean 76 = .ok (.iload 7, 2) := dec_1 oX12_lean (of21 _) 7 rfl rfl
theorem dX12_lean_78 : decode cX12_lean 78 = .ok (.ifCond .ge 8, 3) := dec_s2 oX12_lean (of156 _) 0 8 rfl (sg16p rfl) rfl
theorem dX12_lean_81 : decode cX12_lean 81 = .ok (.iload 7, 2) := dec_1 oX12_lean (of21 _) 7 rfl rfl
theorem dX12_lean_83 : decode cX12_lean 83 = .ok (.ineg, 1) := dec_0 oX12_lean (of116 _) rfl
theorem dX12_lean_84 : decode cX12_lean 84 = .ok (.istore 7, 2) := dec_1 oX12_lean (of54 _) 7 rfl rfl
theorem dX12_lean_86 : decode cX12_lean 86 = .ok (.iload 7, 2) := dec_1 oX12_lean (of21 _) 7 rfl rfl
theorem dX12_lean_88 : decode cX12_lean 88 = .ok (.iload 4, 2) := dec_1 oX12_lean (of21 _) 4 rfl rfl
theorem dX12_lean_90 : decode cX12_lean 90 = .ok (.if_icmp .le 7, 3) := dec_s2 oX12_lean (of164 _) 0 7 rfl (sg16p rfl) rfl
theorem dX12_lean_93 : decode cX12_lean 93 = .ok (.iload 7, 2) := dec_1 oX12_lean (of21 _) 7 rfl rfl
theorem dX12_lean_95 : decode cX12_lean 95 = .ok (.istore 4, 2) := dec_1 oX12_lean (of54 _) 4 rfl rfl
theorem dX12_lean_97 : decode cX12_lean 97 = .ok (.iload 6, 2) := dec_1 oX12_lean (of21 _) 6 rfl rfl
theorem dX12_lean_99 : decode cX12_lean 99 = .ok (.ifCond .le 28, 3) := dec_s2 oX12_lean (of158 _) 0 28 rfl (sg16p rfl) rfl
theorem dX12_lean_102 : decode cX12_lean 102 = .ok (.aload_n 0, 1) := dec_0 oX12_lean (of42 _) rfl
theorem dX12_lean_103 : decode cX12_lean 103 = .ok (.getfield 88, 3) := dec_2 oX12_lean (of180 _) 0 88 rfl rfl
theorem dX12_lean_106 : decode cX12_lean 106 = .ok (.iload 6, 2) := dec_1 oX12_lean (of21 _) 6 rfl rfl
theorem dX12_lean_108 : decode cX12_lean 108 = .ok (.iconst 1, 1) := dec_0 oX12_lean (of4 _) rfl
theorem dX12_lean_109 : decode cX12_lean 109 = .ok (.isub, 1) := dec_0 oX12_lean (of100 _) rfl
theorem dX12_lean_110 : decode cX12_lean 110 = .ok (.iaload, 1) := dec_0 oX12_lean (of46 _) rfl
theorem dX12_lean_111 : decode cX12_lean 111 = .ok (.aload_n 0, 1) := dec_0 oX12_lean (of42 _) rfl
theorem dX12_lean_112 : decode cX12_lean 112 = .ok (.getfield 88, 3) := dec_2 oX12_lean (of180 _) 0 88 rfl rfl
theorem dX12_lean_115 : decode cX12_lean 115 = .ok (.iload 6, 2) := dec_1 oX12_lean (of21 _) 6 rfl rfl
theorem dX12_lean_117 : decode cX12_lean 117 = .ok (.iaload, 1) := dec_0 oX12_lean (of46 _) rfl
theorem dX12_lean_118 : decode cX12_lean 118 = .ok (.isub, 1) := dec_0 oX12_lean (of100 _) rfl
theorem dX12_lean_119 : decode cX12_lean 119 = .ok (.bipush 101, 2) := dec_s1 oX12_lean (of16 _) 101 rfl (sg8p rfl) rfl
theorem dX12_lean_121 : decode cX12_lean 121 = .ok (.if_icmp .ne 6, 3) := dec_s2 oX12_lean (of160 _) 0 6 rfl (sg16p rfl) rfl
theorem dX12_lean_124 : decode cX12_lean 124 = .ok (.iinc 5 1, 3) := dec_ii oX12_lean (of132 _) 5 1 rfl (sg8p rfl) rfl
theorem dX12_lean_127 : decode cX12_lean 127 = .ok (.iinc 6 1, 3) := dec_ii oX12_lean (of132 _) 6 1 rfl (sg8p rfl) rfl
theorem dX12_lean_130 : decode cX12_lean 130 = .ok (.goto (-86), 3) := dec_s2 oX12_lean (of167 _) 255 170 rfl (sg16n (k := 86) rfl) rfl
theorem dX12_lean_133 : decode cX12_lean 133 = .ok (.iload_n 3, 1) := dec_0 oX12_lean (of29 _) rfl
theorem dX12_lean_134 : decode cX12_lean 134 = .ok (.ifCond .ne 8, 3) := dec_s2 oX12_lean (of154 _) 0 8 rfl (sg16p rfl) rfl
theorem dX12_lean_137 : decode cX12_lean 137 = .ok (.iload 4, 2) := dec_1 oX12_lean (of21 _) 4 rfl rfl
theorem dX12_lean_139 : decode cX12_lean 139 = .ok (.goto 5, 3) := dec_s2 oX12_lean (of167 _) 0 5 rfl (sg16p rfl) rfl
theorem dX12_lean_142 : decode cX12_lean 142 = .ok (.iload 5, 2) := dec_1 oX12_lean (of21 _) 5 rfl rfl
theorem dX12_lean_144 : decode cX12_lean 144 = .ok (.ireturn, 1) := dec_0 oX12_lean (of172 _) rfl
theorem dX12_fillsFar_0 : decode cX12_fillsFar 0 = .ok (.aload_n 0, 1) := dec_0 oX12_fillsFar (of42 _) rfl
theorem dX12_fillsFar_1 : decode cX12_fillsFar 1 = .ok (.invokevirtual 323, 3) := dec_2 oX12_fillsFar (of182 _) 1 67 rfl rfl
theorem dX12_fillsFar_4 : decode cX12_fillsFar 4 = .ok (.iconst 0, 1) := dec_0 oX12_fillsFar (of3 _) rfl
theorem dX12_fillsFar_5 : decode cX12_fillsFar 5 = .ok (.istore_n 2, 1) := dec_0 oX12_fillsFar (of61 _) rfl
theorem dX12_fillsFar_6 : decode cX12_fillsFar 6 = .ok (.iload_n 2, 1) := dec_0 oX12_fillsFar (of28 _) rfl
theorem dX12_fillsFar_7 : decode cX12_fillsFar 7 = .ok (.sipush 160, 3) := dec_s2 oX12_fillsFar (of17 _) 0 160 rfl (sg16p rfl) rfl
theorem dX12_fillsFar_10 : decode cX12_fillsFar 10 = .ok (.if_icmp .ge 34, 3) := dec_s2 oX12_fillsFar (of162 _) 0 34 rfl (sg16p rfl) rfl
theorem dX12_fillsFar_13 : decode cX12_fillsFar 13 = .ok (.aload_n 0, 1) := dec_0 oX12_fillsFar (of42 _) rfl
theorem dX12_fillsFar_14 : decode cX12_fillsFar 14 = .ok (.getfield 91, 3) := dec_2 oX12_fillsFar (of180 _) 0 91 rfl rfl
theorem dX12_fillsFar_17 : decode cX12_fillsFar 17 = .ok (.iload_n 2, 1) := dec_0 oX12_fillsFar (of28 _) rfl
theorem dX12_fillsFar_18 : decode cX12_fillsFar 18 = .ok (.aload_n 0, 1) := dec_0 oX12_fillsFar (of42 _) rfl
theorem dX12_fillsFar_19 : decode cX12_fillsFar 19 = .ok (.iload_n 1, 1) := dec_0 oX12_fillsFar (of27 _) rfl
theorem dX12_fillsFar_20 : decode cX12_fillsFar 20 = .ok (.iload_n 2, 1) := dec_0 oX12_fillsFar (of28 _) rfl
theorem dX12_fillsFar_21 : decode cX12_fillsFar 21 = .ok (.invokevirtual 342, 3) := dec_2 oX12_fillsFar (of182 _) 1 86 rfl rfl
theorem dX12_fillsFar_24 : decode cX12_fillsFar 24 = .ok (.ifCond .eq 12, 3) := dec_s2 oX12_fillsFar (of153 _) 0 12 rfl (sg16p rfl) rfl
theorem dX12_fillsFar_27 : decode cX12_fillsFar 27 = .ok (.aload_n 0, 1) := dec_0 oX12_fillsFar (of42 _) rfl
theorem dX12_fillsFar_28 : decode cX12_fillsFar 28 = .ok (.iload_n 1, 1) := dec_0 oX12_fillsFar (of27 _) rfl
theorem dX12_fillsFar_29 : decode cX12_fillsFar 29 = .ok (.iload_n 2, 1) := dec_0 oX12_fillsFar (of28 _) rfl
theorem dX12_fillsFar_30 : decode cX12_fillsFar 30 = .ok (.invokevirtual 345, 3) := dec_2 oX12_fillsFar (of182 _) 1 89 rfl rfl
theorem dX12_fillsFar_33 : decode cX12_fillsFar 33 = .ok (.goto 4, 3) := dec_s2 oX12_fillsFar (of167 _) 0 4 rfl (sg16p rfl) rfl
theorem dX12_fillsFar_36 : decode cX12_fillsFar 36 = .ok (.iconst (-1), 1) := dec_0 oX12_fillsFar (of2 _) rfl
theorem dX12_fillsFar_37 : decode cX12_fillsFar 37 = .ok (.iastore, 1) := dec_0 oX12_fillsFar (of79 _) rfl
theorem dX12_fillsFar_38 : decode cX12_fillsFar 38 = .ok (.iinc 2 1, 3) := dec_ii oX12_fillsFar (of132 _) 2 1 rfl (sg8p rfl) rfl
theorem dX12_fillsFar_41 : decode cX12_fillsFar 41 = .ok (.goto (-35), 3) := dec_s2 oX12_fillsFar (of167 _) 255 221 rfl (sg16n (k := 35) rfl) rfl
theorem dX12_fillsFar_44 : decode cX12_fillsFar 44 = .ok (.return_, 1) := dec_0 oX12_fillsFar (of177 _) rfl
theorem dX12_bestWindow_0 : decode cX12_bestWindow 0 = .ok (.bipush (-2), 2) := dec_s1 oX12_bestWindow (of16 _) 254 rfl (sg8n (k := 2) rfl) rfl
theorem dX12_bestWindow_2 : decode cX12_bestWindow 2 = .ok (.istore_n 1, 1) := dec_0 oX12_bestWindow (of60 _) rfl
theorem dX12_bestWindow_3 : decode cX12_bestWindow 3 = .ok (.iconst 0, 1) := dec_0 oX12_bestWindow (of3 _) rfl
theorem dX12_bestWindow_4 : decode cX12_bestWindow 4 = .ok (.istore_n 2, 1) := dec_0 oX12_bestWindow (of61 _) rfl
theorem dX12_bestWindow_5 : decode cX12_bestWindow 5 = .ok (.iload_n 2, 1) := dec_0 oX12_bestWindow (of28 _) rfl
theorem dX12_bestWindow_6 : decode cX12_bestWindow 6 = .ok (.sipush 160, 3) := dec_s2 oX12_bestWindow (of17 _) 0 160 rfl (sg16p rfl) rfl
theorem dX12_bestWindow_9 : decode cX12_bestWindow 9 = .ok (.if_icmp .ge 39, 3) := dec_s2 oX12_bestWindow (of162 _) 0 39 rfl (sg16p rfl) rfl
theorem dX12_bestWindow_12 : decode cX12_bestWindow 12 = .ok (.aload_n 0, 1) := dec_0 oX12_bestWindow (of42 _) rfl
theorem dX12_bestWindow_13 : decode cX12_bestWindow 13 = .ok (.getfield 91, 3) := dec_2 oX12_bestWindow (of180 _) 0 91 rfl rfl
theorem dX12_bestWindow_16 : decode cX12_bestWindow 16 = .ok (.iload_n 2, 1) := dec_0 oX12_bestWindow (of28 _) rfl
theorem dX12_bestWindow_17 : decode cX12_bestWindow 17 = .ok (.iaload, 1) := dec_0 oX12_bestWindow (of46 _) rfl
theorem dX12_bestWindow_18 : decode cX12_bestWindow 18 = .ok (.ifCond .lt 24, 3) := dec_s2 oX12_bestWindow (of155 _) 0 24 rfl (sg16p rfl) rfl
theorem dX12_bestWindow_21 : decode cX12_bestWindow 21 = .ok (.iload_n 1, 1) := dec_0 oX12_bestWindow (of27 _) rfl
theorem dX12_bestWindow_22 : decode cX12_bestWindow 22 = .ok (.ifCond .lt 18, 3) := dec_s2 oX12_bestWindow (of155 _) 0 18 rfl (sg16p rfl) rfl
theorem dX12_bestWindow_25 : decode cX12_bestWindow 25 = .ok (.aload_n 0, 1) := dec_0 oX12_bestWindow (of42 _) rfl
theorem dX12_bestWindow_26 : decode cX12_bestWindow 26 = .ok (.getfield 91, 3) := dec_2 oX12_bestWindow (of180 _) 0 91 rfl rfl
theorem dX12_bestWindow_29 : decode cX12_bestWindow 29 = .ok (.iload_n 2, 1) := dec_0 oX12_bestWindow (of28 _) rfl
theorem dX12_bestWindow_30 : decode cX12_bestWindow 30 = .ok (.iaload, 1) := dec_0 oX12_bestWindow (of46 _) rfl
theorem dX12_bestWindow_31 : decode cX12_bestWindow 31 = .ok (.aload_n 0, 1) := dec_0 oX12_bestWindow (of42 _) rfl
theorem dX12_bestWindow_32 : decode cX12_bestWindow 32 = .ok (.getfield 91, 3) := dec_2 oX12_bestWindow (of180 _) 0 91 rfl rfl
theorem dX12_bestWindow_35 : decode cX12_bestWindow 35 = .ok (.iload_n 1, 1) := dec_0 oX12_bestWindow (of27 _) rfl
theorem dX12_bestWindow_36 : decode cX12_bestWindow 36 = .ok (.iaload, 1) := dec_0 oX12_bestWindow (of46 _) rfl
theorem dX12_bestWindow_37 : decode cX12_bestWindow 37 = .ok (.if_icmp .ge 5, 3) := dec_s2 oX12_bestWindow (of162 _) 0 5 rfl (sg16p rfl) rfl
theorem dX12_bestWindow_40 : decode cX12_bestWindow 40 = .ok (.iload_n 2, 1) := dec_0 oX12_bestWindow (of28 _) rfl
theorem dX12_bestWindow_41 : decode cX12_bestWindow 41 = .ok (.istore_n 1, 1) := dec_0 oX12_bestWindow (of60 _) rfl
theorem dX12_bestWindow_42 : decode cX12_bestWindow 42 = .ok (.iinc 2 1, 3) := dec_ii oX12_bestWindow (of132 _) 2 1 rfl (sg8p rfl) rfl
theorem dX12_bestWindow_45 : decode cX12_bestWindow 45 = .ok (.goto (-40), 3) := dec_s2 oX12_bestWindow (of167 _) 255 216 rfl (sg16n (k := 40) rfl) rfl
theorem dX12_bestWindow_48 : decode cX12_bestWindow 48 = .ok (.iload_n 1, 1) := dec_0 oX12_bestWindow (of27 _) rfl
theorem dX12_bestWindow_49 : decode cX12_bestWindow 49 = .ok (.ireturn, 1) := dec_0 oX12_bestWindow (of172 _) rfl
theorem dX12_best_8 : decode cX12_best 8 = .ok (.iload_n 2, 1) := dec_0 oX12_best (of28 _) rfl
theorem dX12_best_9 : decode cX12_best 9 = .ok (.iconst 0, 1) := dec_0 oX12_best (of3 _) rfl
theorem dX12_best_10 : decode cX12_best 10 = .ok (.iconst 1, 1) := dec_0 oX12_best (of4 _) rfl
theorem dX12_best_11 : decode cX12_best 11 = .ok (.invokestatic 244, 3) := dec_2 oX12_best (of184 _) 0 244 rfl rfl
theorem dX12_best_14 : decode cX12_best 14 = .ok (.ifCond .ne 5, 3) := dec_s2 oX12_best (of154 _) 0 5 rfl (sg16p rfl) rfl
theorem dX12_best_19 : decode cX12_best 19 = .ok (.aload_n 0, 1) := dec_0 oX12_best (of42 _) rfl
theorem dX12_best_20 : decode cX12_best 20 = .ok (.iload_n 1, 1) := dec_0 oX12_best (of27 _) rfl
theorem dX12_best_21 : decode cX12_best 21 = .ok (.invokevirtual 357, 3) := dec_2 oX12_best (of182 _) 1 101 rfl rfl
theorem dX12_best_24 : decode cX12_best 24 = .ok (.aload_n 0, 1) := dec_0 oX12_best (of42 _) rfl
theorem dX12_best_25 : decode cX12_best 25 = .ok (.invokevirtual 360, 3) := dec_2 oX12_best (of182 _) 1 104 rfl rfl
theorem dX12_best_28 : decode cX12_best 28 = .ok (.istore_n 3, 1) := dec_0 oX12_best (of62 _) rfl
theorem dX12_best_29 : decode cX12_best 29 = .ok (.iload_n 3, 1) := dec_0 oX12_best (of29 _) rfl
theorem dX12_best_30 : decode cX12_best 30 = .ok (.ifCond .lt 7, 3) := dec_s2 oX12_best (of155 _) 0 7 rfl (sg16p rfl) rfl
theorem dX12_best_33 : decode cX12_best 33 = .ok (.iload_n 2, 1) := dec_0 oX12_best (of28 _) rfl
theorem dX12_best_34 : decode cX12_best 34 = .ok (.ifCond .ne 7, 3) := dec_s2 oX12_best (of154 _) 0 7 rfl (sg16p rfl) rfl
theorem dX12_best_37 : decode cX12_best 37 = .ok (.iload_n 3, 1) := dec_0 oX12_best (of29 _) rfl
theorem dX12_best_38 : decode cX12_best 38 = .ok (.goto 9, 3) := dec_s2 oX12_best (of167 _) 0 9 rfl (sg16p rfl) rfl
theorem dX12_best_41 : decode cX12_best 41 = .ok (.aload_n 0, 1) := dec_0 oX12_best (of42 _) rfl
theorem dX12_best_42 : decode cX12_best 42 = .ok (.getfield 91, 3) := dec_2 oX12_best (of180 _) 0 91 rfl rfl
theorem dX12_best_45 : decode cX12_best 45 = .ok (.iload_n 3, 1) := dec_0 oX12_best (of29 _) rfl
theorem dX12_best_46 : decode cX12_best 46 = .ok (.iaload, 1) := dec_0 oX12_best (of46 _) rfl
theorem dX12_best_47 : decode cX12_best 47 = .ok (.ireturn, 1) := dec_0 oX12_best (of172 _) rfl
theorem dX12_needs_11 : decode cX12_needs 11 = .ok (.aload_n 0, 1) := dec_0 oX12_needs (of42 _) rfl
theorem dX12_needs_12 : decode cX12_needs 12 = .ok (.getfield 70, 3) := dec_2 oX12_needs (of180 _) 0 70 rfl rfl
theorem dX12_needs_15 : decode cX12_needs 15 = .ok (.sipush 161, 3) := dec_s2 oX12_needs (of17 _) 0 161 rfl (sg16p rfl) rfl
theorem dX12_needs_18 : decode cX12_needs 18 = .ok (.iaload, 1) := dec_0 oX12_needs (of46 _) rfl
theorem dX12_needs_19 : decode cX12_needs 19 = .ok (.istore_n 3, 1) := dec_0 oX12_needs (of62 _) rfl
theorem dX12_needs_20 : decode cX12_needs 20 = .ok (.bipush (-2), 2) := dec_s1 oX12_needs (of16 _) 254 rfl (sg8n (k := 2) rfl) rfl
theorem dX12_needs_22 : decode cX12_needs 22 = .ok (.istore 4, 2) := dec_1 oX12_needs (of54 _) 4 rfl rfl
theorem dX12_needs_24 : decode cX12_needs 24 = .ok (.bipush 15, 2) := dec_s1 oX12_needs (of16 _) 15 rfl (sg8p rfl) rfl
theorem dX12_needs_26 : decode cX12_needs 26 = .ok (.istore 5, 2) := dec_1 oX12_needs (of54 _) 5 rfl rfl
theorem dX12_needs_28 : decode cX12_needs 28 = .ok (.iload 5, 2) := dec_1 oX12_needs (of21 _) 5 rfl rfl
theorem dX12_needs_30 : decode cX12_needs 30 = .ok (.ifCond .lt 36, 3) := dec_s2 oX12_needs (of155 _) 0 36 rfl (sg16p rfl) rfl
theorem dX12_needs_33 : decode cX12_needs 33 = .ok (.aload_n 0, 1) := dec_0 oX12_needs (of42 _) rfl
theorem dX12_needs_34 : decode cX12_needs 34 = .ok (.getfield 70, 3) := dec_2 oX12_needs (of180 _) 0 70 rfl rfl
theorem dX12_needs_37 : decode cX12_needs 37 = .ok (.sipush 161, 3) := dec_s2 oX12_needs (of17 _) 0 161 rfl (sg16p rfl) rfl
theorem dX12_needs_40 : decode cX12_needs 40 = .ok (.iload 5, 2) := dec_1 oX12_needs (of21 _) 5 rfl rfl
theorem dX12_needs_42 : decode cX12_needs 42 = .ok (.iastore, 1) := dec_0 oX12_needs (of79 _) rfl
theorem dX12_needs_43 : decode cX12_needs 43 = .ok (.aload_n 0, 1) := dec_0 oX12_needs (of42 _) rfl
theorem dX12_needs_44 : decode cX12_needs 44 = .ok (.iload_n 1, 1) := dec_0 oX12_needs (of27 _) rfl
theorem dX12_needs_45 : decode cX12_needs 45 = .ok (.invokevirtual 357, 3) := dec_2 oX12_needs (of182 _) 1 101 rfl rfl
theorem dX12_needs_48 : decode cX12_needs 48 = .ok (.aload_n 0, 1) := dec_0 oX12_needs (of42 _) rfl
theorem dX12_needs_49 : decode cX12_needs 49 = .ok (.invokevirtual 360, 3) := dec_2 oX12_needs (of182 _) 1 104 rfl rfl
theorem dX12_needs_52 : decode cX12_needs 52 = .ok (.iload_n 2, 1) := dec_0 oX12_needs (of28 _) rfl
theorem dX12_needs_53 : decode cX12_needs 53 = .ok (.if_icmp .ne 7, 3) := dec_s2 oX12_needs (of160 _) 0 7 rfl (sg16p rfl) rfl
theorem dX12_needs_56 : decode cX12_needs 56 = .ok (.iload 5, 2) := dec_1 oX12_needs (of21 _) 5 rfl rfl
theorem dX12_needs_58 : decode cX12_needs 58 = .ok (.istore 4, 2) := dec_1 oX12_needs (of54 _) 4 rfl rfl
theorem dX12_needs_60 : decode cX12_needs 60 = .ok (.iinc 5 (-1), 3) := dec_ii oX12_needs (of132 _) 5 255 rfl (sg8n (k := 1) rfl) rfl
theorem dX12_needs_63 : decode cX12_needs 63 = .ok (.goto (-35), 3) := dec_s2 oX12_needs (of167 _) 255 221 rfl (sg16n (k := 35) rfl) rfl
theorem dX12_needs_66 : decode cX12_needs 66 = .ok (.aload_n 0, 1) := dec_0 oX12_needs (of42 _) rfl
theorem dX12_needs_67 : decode cX12_needs 67 = .ok (.getfield 70, 3) := dec_2 oX12_needs (of180 _) 0 70 rfl rfl
theorem dX12_needs_70 : decode cX12_needs 70 = .ok (.sipush 161, 3) := dec_s2 oX12_needs (of17 _) 0 161 rfl (sg16p rfl) rfl
theorem dX12_needs_73 : decode cX12_needs 73 = .ok (.iload_n 3, 1) := dec_0 oX12_needs (of29 _) rfl
theorem dX12_needs_74 : decode cX12_needs 74 = .ok (.iastore, 1) := dec_0 oX12_needs (of79 _) rfl
theorem dX12_needs_75 : decode cX12_needs 75 = .ok (.iload 4, 2) := dec_1 oX12_needs (of21 _) 4 rfl rfl
theorem dX12_needs_77 : decode cX12_needs 77 = .ok (.ireturn, 1) := dec_0 oX12_needs (of172 _) rfl
theorem dX12_fillsSearch_0 : decode cX12_fillsSearch 0 = .ok (.aload_n 0, 1) := dec_0 oX12_fillsSearch (of42 _) rfl
theorem dX12_fillsSearch_1 : decode cX12_fillsSearch 1 = .ok (.invokevirtual 323, 3) := dec_2 oX12_fillsSearch (of182 _) 1 67 rfl rfl
theorem dX12_fillsSearch_4 : decode cX12_fillsSearch 4 = .ok (.iconst 0, 1) := dec_0 oX12_fillsSearch (of3 _) rfl
theorem dX12_fillsSearch_5 : decode cX12_fillsSearch 5 = .ok (.istore_n 2, 1) := dec_0 oX12_fillsSearch (of61 _) rfl
theorem dX12_fillsSearch_6 : decode cX12_fillsSearch 6 = .ok (.iload_n 2, 1) := dec_0 oX12_fillsSearch (of28 _) rfl
theorem dX12_fillsSearch_7 : decode cX12_fillsSearch 7 = .ok (.bipush 9, 2) := dec_s1 oX12_fillsSearch (of16 _) 9 rfl (sg8p rfl) rfl
theorem dX12_fillsSearch_9 : decode cX12_fillsSearch 9 = .ok (.if_icmp .ge 16, 3) := dec_s2 oX12_fillsSearch (of162 _) 0 16 rfl (sg16p rfl) rfl
theorem dX12_fillsSearch_12 : decode cX12_fillsSearch 12 = .ok (.aload_n 0, 1) := dec_0 oX12_fillsSearch (of42 _) rfl
theorem dX12_fillsSearch_13 : decode cX12_fillsSearch 13 = .ok (.getfield 94, 3) := dec_2 oX12_fillsSearch (of180 _) 0 94 rfl rfl
theorem dX12_fillsSearch_16 : decode cX12_fillsSearch 16 = .ok (.iload_n 2, 1) := dec_0 oX12_fillsSearch (of28 _) rfl
theorem dX12_fillsSearch_17 : decode cX12_fillsSearch 17 = .ok (.iconst 0, 1) := dec_0 oX12_fillsSearch (of3 _) rfl
theorem dX12_fillsSearch_18 : decode cX12_fillsSearch 18 = .ok (.iastore, 1) := dec_0 oX12_fillsSearch (of79 _) rfl
theorem dX12_fillsSearch_19 : decode cX12_fillsSearch 19 = .ok (.iinc 2 1, 3) := dec_ii oX12_fillsSearch (of132 _) 2 1 rfl (sg8p rfl) rfl
theorem dX12_fillsSearch_22 : decode cX12_fillsSearch 22 = .ok (.goto (-16), 3) := dec_s2 oX12_fillsSearch (of167 _) 255 240 rfl (sg16n (k := 16) rfl) rfl
theorem dX12_fillsSearch_25 : decode cX12_fillsSearch 25 = .ok (.ldc_w 282, 3) := dec_2 oX12_fillsSearch (of19 _) 1 26 rfl rfl
theorem dX12_fillsSearch_28 : decode cX12_fillsSearch 28 = .ok (.istore_n 2, 1) := dec_0 oX12_fillsSearch (of61 _) rfl
theorem dX12_fillsSearch_29 : decode cX12_fillsSearch 29 = .ok (.iconst 0, 1) := dec_0 oX12_fillsSearch (of3 _) rfl
theorem dX12_fillsSearch_30 : decode cX12_fillsSearch 30 = .ok (.istore_n 3, 1) := dec_0 oX12_fillsSearch (of62 _) rfl
theorem dX12_fillsSearch_31 : decode cX12_fillsSearch 31 = .ok (.iload_n 3, 1) := dec_0 oX12_fillsSearch (of29 _) rfl
theorem dX12_fillsSearch_32 : decode cX12_fillsSearch 32 = .ok (.sipush 160, 3) := dec_s2 oX12_fillsSearch (of17 _) 0 160 rfl (sg16p rfl) rfl
theorem dX12_fillsSearch_35 : decode cX12_fillsSearch 35 = .ok (.if_icmp .ge 107, 3) := dec_s2 oX12_fillsSearch (of162 _) 0 107 rfl (sg16p rfl) rfl
theorem dX12_fillsSearch_38 : decode cX12_fillsSearch 38 = .ok (.aload_n 0, 1) := dec_0 oX12_fillsSearch (of42 _) rfl
theorem dX12_fillsSearch_39 : decode cX12_fillsSearch 39 = .ok (.iload_n 1, 1) := dec_0 oX12_fillsSearch (of27 _) rfl
theorem dX12_fillsSearch_40 : decode cX12_fillsSearch 40 = .ok (.iload_n 3, 1) := dec_0 oX12_fillsSearch (of29 _) rfl
theorem dX12_fillsSearch_41 : decode cX12_fillsSearch 41 = .ok (.invokevirtual 342, 3) := dec_2 oX12_fillsSearch (of182 _) 1 86 rfl rfl
theorem dX12_fillsSearch_44 : decode cX12_fillsSearch 44 = .ok (.ifCond .ne 6, 3) := dec_s2 oX12_fillsSearch (of154 _) 0 6 rfl (sg16p rfl) rfl
theorem dX12_fillsSearch_47 : decode cX12_fillsSearch 47 = .ok (.goto 89, 3) := dec_s2 oX12_fillsSearch (of167 _) 0 89 rfl (sg16p rfl) rfl
theorem dX12_fillsSearch_50 : decode cX12_fillsSearch 50 = .ok (.aload_n 0, 1) := dec_0 oX12_fillsSearch (of42 _) rfl
theorem dX12_fillsSearch_51 : decode cX12_fillsSearch 51 = .ok (.iload_n 1, 1) := dec_0 oX12_fillsSearch (of27 _) rfl
theorem dX12_fillsSearch_52 : decode cX12_fillsSearch 52 = .ok (.iload_n 3, 1) := dec_0 oX12_fillsSearch (of29 _) rfl
theorem dX12_fillsSearch_53 : decode cX12_fillsSearch 53 = .ok (.iload_n 2, 1) := dec_0 oX12_fillsSearch (of28 _) rfl
theorem dX12_fillsSearch_54 : decode cX12_fillsSearch 54 = .ok (.invokevirtual 348, 3) := dec_2 oX12_fillsSearch (of182 _) 1 92 rfl rfl
theorem dX12_fillsSearch_57 : decode cX12_fillsSearch 57 = .ok (.istore 4, 2) := dec_1 oX12_fillsSearch (of54 _) 4 rfl rfl
theorem dX12_fillsSearch_59 : decode cX12_fillsSearch 59 = .ok (.aload_n 0, 1) := dec_0 oX12_fillsSearch (of42 _) rfl
theorem dX12_fillsSearch_60 : decode cX12_fillsSearch 60 = .ok (.getfield 94, 3) := dec_2 oX12_fillsSearch (of180 _) 0 94 rfl rfl
theorem dX12_fillsSearch_63 : decode cX12_fillsSearch 63 = .ok (.iconst 0, 1) := dec_0 oX12_fillsSearch (of3 _) rfl
theorem dX12_fillsSearch_64 : decode cX12_fillsSearch 64 = .ok (.dup2, 1) := dec_0 oX12_fillsSearch (of92 _) rfl
theorem dX12_fillsSearch_65 : decode cX12_fillsSearch 65 = .ok (.iaload, 1) := dec_0 oX12_fillsSearch (of46 _) rfl
theorem dX12_fillsSearch_66 : decode cX12_fillsSearch 66 = .ok (.iconst 1, 1) := dec_0 oX12_fillsSearch (of4 _) rfl
theorem dX12_fillsSearch_67 : decode cX12_fillsSearch 67 = .ok (.iadd, 1) := dec_0 oX12_fillsSearch (of96 _) rfl
theorem dX12_fillsSearch_68 : decode cX12_fillsSearch 68 = .ok (.iastore, 1) := dec_0 oX12_fillsSearch (of79 _) rfl
theorem dX12_fillsSearch_69 : decode cX12_fillsSearch 69 = .ok (.aload_n 0, 1) := dec_0 oX12_fillsSearch (of42 _) rfl
theorem dX12_fillsSearch_70 : decode cX12_fillsSearch 70 = .ok (.getfield 94, 3) := dec_2 oX12_fillsSearch (of180 _) 0 94 rfl rfl
theorem dX12_fillsSearch_73 : decode cX12_fillsSearch 73 = .ok (.iload 4, 2) := dec_1 oX12_fillsSearch (of21 _) 4 rfl rfl
theorem dX12_fillsSearch_75 : decode cX12_fillsSearch 75 = .ok (.ifCond .ne 8, 3) := dec_s2 oX12_fillsSearch (of154 _) 0 8 rfl (sg16p rfl) rfl
theorem dX12_fillsSearch_78 : decode cX12_fillsSearch 78 = .ok (.bipush 7, 2) := dec_s1 oX12_fillsSearch (of16 _) 7 rfl (sg8p rfl) rfl
theorem dX12_fillsSearch_80 : decode cX12_fillsSearch 80 = .ok (.goto 5, 3) := dec_s2 oX12_fillsSearch (of167 _) 0 5 rfl (sg16p rfl) rfl
theorem dX12_fillsSearch_83 : decode cX12_fillsSearch 83 = .ok (.iload 4, 2) := dec_1 oX12_fillsSearch (of21 _) 4 rfl rfl
theorem dX12_fillsSearch_85 : decode cX12_fillsSearch 85 = .ok (.dup2, 1) := dec_0 oX12_fillsSearch (of92 _) rfl
theorem dX12_fillsSearch_86 : decode cX12_fillsSearch 86 = .ok (.iaload, 1) := dec_0 oX12_fillsSearch (of46 _) rfl
theorem dX12_fillsSearch_87 : decode cX12_fillsSearch 87 = .ok (.iconst 1, 1) := dec_0 oX12_fillsSearch (of4 _) rfl
theorem dX12_fillsSearch_88 : decode cX12_fillsSearch 88 = .ok (.iadd, 1) := dec_0 oX12_fillsSearch (of96 _) rfl
theorem dX12_fillsSearch_89 : decode cX12_fillsSearch 89 = .ok (.iastore, 1) := dec_0 oX12_fillsSearch (of79 _) rfl
theorem dX12_fillsSearch_90 : decode cX12_fillsSearch 90 = .ok (.aload_n 0, 1) := dec_0 oX12_fillsSearch (of42 _) rfl
theorem dX12_fillsSearch_91 : decode cX12_fillsSearch 91 = .ok (.getfield 94, 3) := dec_2 oX12_fillsSearch (of180 _) 0 94 rfl rfl
theorem dX12_fillsSearch_94 : decode cX12_fillsSearch 94 = .ok (.bipush 6, 2) := dec_s1 oX12_fillsSearch (of16 _) 6 rfl (sg8p rfl) rfl
theorem dX12_fillsSearch_96 : decode cX12_fillsSearch 96 = .ok (.dup2, 1) := dec_0 oX12_fillsSearch (of92 _) rfl
theorem dX12_fillsSearch_97 : decode cX12_fillsSearch 97 = .ok (.iaload, 1) := dec_0 oX12_fillsSearch (of46 _) rfl
theorem dX12_fillsSearch_98 : decode cX12_fillsSearch 98 = .ok (.aload_n 0, 1) := dec_0 oX12_fillsSearch (of42 _) rfl
theorem dX12_fillsSearch_99 : decode cX12_fillsSearch 99 = .ok (.getfield 292, 3) := dec_2 oX12_fillsSearch (of180 _) 1 36 rfl rfl
theorem dX12_fillsSearch_102 : decode cX12_fillsSearch 102 = .ok (.iadd, 1) := dec_0 oX12_fillsSearch (of96 _) rfl
theorem dX12_fillsSearch_103 : decode cX12_fillsSearch 103 = .ok (.iastore, 1) := dec_0 oX12_fillsSearch (of79 _) rfl
theorem dX12_fillsSearch_104 : decode cX12_fillsSearch 104 = .ok (.iload 4, 2) := dec_1 oX12_fillsSearch (of21 _) 4 rfl rfl
theorem dX12_fillsSearch_106 : decode cX12_fillsSearch 106 = .ok (.iconst 4, 1) := dec_0 oX12_fillsSearch (of7 _) rfl
theorem dX12_fillsSearch_107 : decode cX12_fillsSearch 107 = .ok (.if_icmp .ne 19, 3) := dec_s2 oX12_fillsSearch (of160 _) 0 19 rfl (sg16p rfl) rfl
theorem dX12_fillsSearch_110 : decode cX12_fillsSearch 110 = .ok (.aload_n 0, 1) := dec_0 oX12_fillsSearch (of42 _) rfl
theorem dX12_fillsSearch_111 : decode cX12_fillsSearch 111 = .ok (.getfield 94, 3) := dec_2 oX12_fillsSearch (of180 _) 0 94 rfl rfl
theorem dX12_fillsSearch_114 : decode cX12_fillsSearch 114 = .ok (.bipush 8, 2) := dec_s1 oX12_fillsSearch (of16 _) 8 rfl (sg8p rfl) rfl
theorem dX12_fillsSearch_116 : decode cX12_fillsSearch 116 = .ok (.dup2, 1) := dec_0 oX12_fillsSearch (of92 _) rfl
theorem dX12_fillsSearch_117 : decode cX12_fillsSearch 117 = .ok (.iaload, 1) := dec_0 oX12_fillsSearch (of46 _) rfl
theorem dX12_fillsSearch_118 : decode cX12_fillsSearch 118 = .ok (.aload_n 0, 1) := dec_0 oX12_fillsSearch (of42 _) rfl
theorem dX12_fillsSearch_119 : decode cX12_fillsSearch 119 = .ok (.getfield 295, 3) := dec_2 oX12_fillsSearch (of180 _) 1 39 rfl rfl
theorem dX12_fillsSearch_122 : decode cX12_fillsSearch 122 = .ok (.iconst 1, 1) := dec_0 oX12_fillsSearch (of4 _) rfl
theorem dX12_fillsSearch_123 : decode cX12_fillsSearch 123 = .ok (.iadd, 1) := dec_0 oX12_fillsSearch (of96 _) rfl
theorem dX12_fillsSearch_124 : decode cX12_fillsSearch 124 = .ok (.iadd, 1) := dec_0 oX12_fillsSearch (of96 _) rfl
theorem dX12_fillsSearch_125 : decode cX12_fillsSearch 125 = .ok (.iastore, 1) := dec_0 oX12_fillsSearch (of79 _) rfl
theorem dX12_fillsSearch_126 : decode cX12_fillsSearch 126 = .ok (.iload 4, 2) := dec_1 oX12_fillsSearch (of21 _) 4 rfl rfl
theorem dX12_fillsSearch_128 : decode cX12_fillsSearch 128 = .ok (.ifCond .ne 8, 3) := dec_s2 oX12_fillsSearch (of154 _) 0 8 rfl (sg16p rfl) rfl
theorem dX12_fillsSearch_131 : decode cX12_fillsSearch 131 = .ok (.aload_n 0, 1) := dec_0 oX12_fillsSearch (of42 _) rfl
theorem dX12_fillsSearch_132 : decode cX12_fillsSearch 132 = .ok (.getfield 311, 3) := dec_2 oX12_fillsSearch (of180 _) 1 55 rfl rfl
theorem dX12_fillsSearch_135 : decode cX12_fillsSearch 135 = .ok (.istore_n 2, 1) := dec_0 oX12_fillsSearch (of61 _) rfl
theorem dX12_fillsSearch_136 : decode cX12_fillsSearch 136 = .ok (.iinc 3 1, 3) := dec_ii oX12_fillsSearch (of132 _) 3 1 rfl (sg8p rfl) rfl
theorem dX12_fillsSearch_139 : decode cX12_fillsSearch 139 = .ok (.goto (-108), 3) := dec_s2 oX12_fillsSearch (of167 _) 255 148 rfl (sg16n (k := 108) rfl) rfl
theorem dX12_fillsSearch_142 : decode cX12_fillsSearch 142 = .ok (.return_, 1) := dec_0 oX12_fillsSearch (of177 _) rfl
theorem dX12_search_8 : decode cX12_search 8 = .ok (.iload_n 2, 1) := dec_0 oX12_search (of28 _) rfl
theorem dX12_search_9 : decode cX12_search 9 = .ok (.iconst 0, 1) := dec_0 oX12_search (of3 _) rfl
theorem dX12_search_10 : decode cX12_search 10 = .ok (.bipush 8, 2) := dec_s1 oX12_search (of16 _) 8 rfl (sg8p rfl) rfl
theorem dX12_search_12 : decode cX12_search 12 = .ok (.invokestatic 244, 3) := dec_2 oX12_search (of184 _) 0 244 rfl rfl
theorem dX12_search_15 : decode cX12_search 15 = .ok (.ifCond .ne 5, 3) := dec_s2 oX12_search (of154 _) 0 5 rfl (sg16p rfl) rfl
theorem dX12_search_20 : decode cX12_search 20 = .ok (.aload_n 0, 1) := dec_0 oX12_search (of42 _) rfl
theorem dX12_search_21 : decode cX12_search 21 = .ok (.iload_n 1, 1) := dec_0 oX12_search (of27 _) rfl
theorem dX12_search_22 : decode cX12_search 22 = .ok (.invokevirtual 363, 3) := dec_2 oX12_search (of182 _) 1 107 rfl rfl
theorem dX12_search_25 : decode cX12_search 25 = .ok (.aload_n 0, 1) := dec_0 oX12_search (of42 _) rfl
theorem dX12_search_26 : decode cX12_search 26 = .ok (.getfield 94, 3) := dec_2 oX12_search (of180 _) 0 94 rfl rfl
theorem dX12_search_29 : decode cX12_search 29 = .ok (.iload_n 2, 1) := dec_0 oX12_search (of28 _) rfl
theorem dX12_search_30 : decode cX12_search 30 = .ok (.iaload, 1) := dec_0 oX12_search (of46 _) rfl
theorem dX12_search_31 : decode cX12_search 31 = .ok (.ireturn, 1) := dec_0 oX12_search (of172 _) rfl
theorem dX12_isApart_0 : decode cX12_isApart 0 = .ok (.iconst 0, 1) := dec_0 oX12_isApart (of3 _) rfl
theorem dX12_isApart_1 : decode cX12_isApart 1 = .ok (.istore_n 2, 1) := dec_0 oX12_isApart (of61 _) rfl
theorem dX12_isApart_2 : decode cX12_isApart 2 = .ok (.iload_n 2, 1) := dec_0 oX12_isApart (of28 _) rfl
theorem dX12_isApart_3 : decode cX12_isApart 3 = .ok (.aload_n 0, 1) := dec_0 oX12_isApart (of42 _) rfl
theorem dX12_isApart_4 : decode cX12_isApart 4 = .ok (.getfield 366, 3) := dec_2 oX12_isApart (of180 _) 1 110 rfl rfl
theorem dX12_isApart_7 : decode cX12_isApart 7 = .ok (.if_icmp .ge 45, 3) := dec_s2 oX12_isApart (of162 _) 0 45 rfl (sg16p rfl) rfl
theorem dX12_isApart_10 : decode cX12_isApart 10 = .ok (.iload_n 1, 1) := dec_0 oX12_isApart (of27 _) rfl
theorem dX12_isApart_11 : decode cX12_isApart 11 = .ok (.aload_n 0, 1) := dec_0 oX12_isApart (of42 _) rfl
theorem dX12_isApart_12 : decode cX12_isApart 12 = .ok (.getfield 97, 3) := dec_2 oX12_isApart (of180 _) 0 97 rfl rfl
theorem dX12_isApart_15 : decode cX12_isApart 15 = .ok (.iload_n 2, 1) := dec_0 oX12_isApart (of28 _) rfl
theorem dX12_isApart_16 : decode cX12_isApart 16 = .ok (.iaload, 1) := dec_0 oX12_isApart (of46 _) rfl
theorem dX12_isApart_17 : decode cX12_isApart 17 = .ok (.isub, 1) := dec_0 oX12_isApart (of100 _) rfl
theorem dX12_isApart_18 : decode cX12_isApart 18 = .ok (.iconst 1, 1) := dec_0 oX12_isApart (of4 _) rfl
theorem dX12_isApart_19 : decode cX12_isApart 19 = .ok (.aload_n 0, 1) := dec_0 oX12_isApart (of42 _) rfl
theorem dX12_isApart_20 : decode cX12_isApart 20 = .ok (.getfield 73, 3) := dec_2 oX12_isApart (of180 _) 0 73 rfl rfl
theorem dX12_isApart_23 : decode cX12_isApart 23 = .ok (.sipush 164, 3) := dec_s2 oX12_isApart (of17 _) 0 164 rfl (sg16p rfl) rfl
theorem dX12_isApart_26 : decode cX12_isApart 26 = .ok (.iaload, 1) := dec_0 oX12_isApart (of46 _) rfl
theorem dX12_isApart_27 : decode cX12_isApart 27 = .ok (.isub, 1) := dec_0 oX12_isApart (of100 _) rfl
theorem dX12_isApart_28 : decode cX12_isApart 28 = .ok (.aload_n 0, 1) := dec_0 oX12_isApart (of42 _) rfl
theorem dX12_isApart_29 : decode cX12_isApart 29 = .ok (.getfield 73, 3) := dec_2 oX12_isApart (of180 _) 0 73 rfl rfl
theorem dX12_isApart_32 : decode cX12_isApart 32 = .ok (.sipush 164, 3) := dec_s2 oX12_isApart (of17 _) 0 164 rfl (sg16p rfl) rfl
theorem dX12_isApart_35 : decode cX12_isApart 35 = .ok (.iaload, 1) := dec_0 oX12_isApart (of46 _) rfl
theorem dX12_isApart_36 : decode cX12_isApart 36 = .ok (.iconst 1, 1) := dec_0 oX12_isApart (of4 _) rfl
theorem dX12_isApart_37 : decode cX12_isApart 37 = .ok (.isub, 1) := dec_0 oX12_isApart (of100 _) rfl
theorem dX12_isApart_38 : decode cX12_isApart 38 = .ok (.invokestatic 244, 3) := dec_2 oX12_isApart (of184 _) 0 244 rfl rfl
theorem dX12_isApart_41 : decode cX12_isApart 41 = .ok (.ifCond .eq 5, 3) := dec_s2 oX12_isApart (of153 _) 0 5 rfl (sg16p rfl) rfl
theorem dX12_isApart_44 : decode cX12_isApart 44 = .ok (.iconst 0, 1) := dec_0 oX12_isApart (of3 _) rfl
theorem dX12_isApart_45 : decode cX12_isApart 45 = .ok (.ireturn, 1) := dec_0 oX12_isApart (of172 _) rfl
theorem dX12_isApart_46 : decode cX12_isApart 46 = .ok (.iinc 2 1, 3) := dec_ii oX12_isApart (of132 _) 2 1 rfl (sg8p rfl) rfl
theorem dX12_isApart_49 : decode cX12_isApart 49 = .ok (.goto (-47), 3) := dec_s2 oX12_isApart (of167 _) 255 209 rfl (sg16n (k := 47) rfl) rfl
theorem dX12_isApart_52 : decode cX12_isApart 52 = .ok (.iconst 1, 1) := dec_0 oX12_isApart (of4 _) rfl
theorem dX12_isApart_53 : decode cX12_isApart 53 = .ok (.ireturn, 1) := dec_0 oX12_isApart (of172 _) rfl
theorem dX12_fillsMatches_0 : decode cX12_fillsMatches 0 = .ok (.aload_n 0, 1) := dec_0 oX12_fillsMatches (of42 _) rfl
theorem dX12_fillsMatches_1 : decode cX12_fillsMatches 1 = .ok (.iload_n 1, 1) := dec_0 oX12_fillsMatches (of27 _) rfl
theorem dX12_fillsMatches_2 : decode cX12_fillsMatches 2 = .ok (.invokevirtual 357, 3) := dec_2 oX12_fillsMatches (of182 _) 1 101 rfl rfl
theorem dX12_fillsMatches_5 : decode cX12_fillsMatches 5 = .ok (.aload_n 0, 1) := dec_0 oX12_fillsMatches (of42 _) rfl
theorem dX12_fillsMatches_6 : decode cX12_fillsMatches 6 = .ok (.iconst 0, 1) := dec_0 oX12_fillsMatches (of3 _) rfl
theorem dX12_fillsMatches_7 : decode cX12_fillsMatches 7 = .ok (.putfield 366, 3) := dec_2 oX12_fillsMatches (of181 _) 1 110 rfl rfl
theorem dX12_fillsMatches_10 : decode cX12_fillsMatches 10 = .ok (.iconst 0, 1) := dec_0 oX12_fillsMatches (of3 _) rfl
theorem dX12_fillsMatches_11 : decode cX12_fillsMatches 11 = .ok (.istore_n 2, 1) := dec_0 oX12_fillsMatches (of61 _) rfl
theorem dX12_fillsMatches_12 : decode cX12_fillsMatches 12 = .ok (.iload_n 2, 1) := dec_0 oX12_fillsMatches (of28 _) rfl
theorem dX12_fillsMatches_13 : decode cX12_fillsMatches 13 = .ok (.ifCond .lt 86, 3) := dec_s2 oX12_fillsMatches (of155 _) 0 86 rfl (sg16p rfl) rfl
theorem dX12_fillsMatches_16 : decode cX12_fillsMatches 16 = .ok (.iconst (-1), 1) := dec_0 oX12_fillsMatches (of2 _) rfl
theorem dX12_fillsMatches_17 : decode cX12_fillsMatches 17 = .ok (.istore_n 2, 1) := dec_0 oX12_fillsMatches (of61 _) rfl
theorem dX12_fillsMatches_18 : decode cX12_fillsMatches 18 = .ok (.iconst 0, 1) := dec_0 oX12_fillsMatches (of3 _) rfl
theorem dX12_fillsMatches_19 : decode cX12_fillsMatches 19 = .ok (.istore_n 3, 1) := dec_0 oX12_fillsMatches (of62 _) rfl
theorem dX12_fillsMatches_20 : decode cX12_fillsMatches 20 = .ok (.iload_n 3, 1) := dec_0 oX12_fillsMatches (of29 _) rfl
theorem dX12_fillsMatches_21 : decode cX12_fillsMatches 21 = .ok (.sipush 160, 3) := dec_s2 oX12_fillsMatches (of17 _) 0 160 rfl (sg16p rfl) rfl
theorem dX12_fillsMatches_24 : decode cX12_fillsMatches 24 = .ok (.if_icmp .ge 47, 3) := dec_s2 oX12_fillsMatches (of162 _) 0 47 rfl (sg16p rfl) rfl
theorem dX12_fillsMatches_27 : decode cX12_fillsMatches 27 = .ok (.aload_n 0, 1) := dec_0 oX12_fillsMatches (of42 _) rfl
theorem dX12_fillsMatches_28 : decode cX12_fillsMatches 28 = .ok (.getfield 91, 3) := dec_2 oX12_fillsMatches (of180 _) 0 91 rfl rfl
theorem dX12_fillsMatches_31 : decode cX12_fillsMatches 31 = .ok (.iload_n 3, 1) := dec_0 oX12_fillsMatches (of29 _) rfl
theorem dX12_fillsMatches_32 : decode cX12_fillsMatches 32 = .ok (.iaload, 1) := dec_0 oX12_fillsMatches (of46 _) rfl
theorem dX12_fillsMatches_33 : decode cX12_fillsMatches 33 = .ok (.ifCond .lt 32, 3) := dec_s2 oX12_fillsMatches (of155 _) 0 32 rfl (sg16p rfl) rfl
theorem dX12_fillsMatches_36 : decode cX12_fillsMatches 36 = .ok (.aload_n 0, 1) := dec_0 oX12_fillsMatches (of42 _) rfl
theorem dX12_fillsMatches_37 : decode cX12_fillsMatches 37 = .ok (.iload_n 3, 1) := dec_0 oX12_fillsMatches (of29 _) rfl
theorem dX12_fillsMatches_38 : decode cX12_fillsMatches 38 = .ok (.invokevirtual 369, 3) := dec_2 oX12_fillsMatches (of182 _) 1 113 rfl rfl
theorem dX12_fillsMatches_41 : decode cX12_fillsMatches 41 = .ok (.ifCond .eq 24, 3) := dec_s2 oX12_fillsMatches (of153 _) 0 24 rfl (sg16p rfl) rfl
theorem dX12_fillsMatches_44 : decode cX12_fillsMatches 44 = .ok (.iload_n 2, 1) := dec_0 oX12_fillsMatches (of28 _) rfl
theorem dX12_fillsMatches_45 : decode cX12_fillsMatches 45 = .ok (.ifCond .lt 18, 3) := dec_s2 oX12_fillsMatches (of155 _) 0 18 rfl (sg16p rfl) rfl
theorem dX12_fillsMatches_48 : decode cX12_fillsMatches 48 = .ok (.aload_n 0, 1) := dec_0 oX12_fillsMatches (of42 _) rfl
theorem dX12_fillsMatches_49 : decode cX12_fillsMatches 49 = .ok (.getfield 91, 3) := dec_2 oX12_fillsMatches (of180 _) 0 91 rfl rfl
theorem dX12_fillsMatches_52 : decode cX12_fillsMatches 52 = .ok (.iload_n 3, 1) := dec_0 oX12_fillsMatches (of29 _) rfl
theorem dX12_fillsMatches_53 : decode cX12_fillsMatches 53 = .ok (.iaload, 1) := dec_0 oX12_fillsMatches (of46 _) rfl
theorem dX12_fillsMatches_54 : decode cX12_fillsMatches 54 = .ok (.aload_n 0, 1) := dec_0 oX12_fillsMatches (of42 _) rfl
theorem dX12_fillsMatches_55 : decode cX12_fillsMatches 55 = .ok (.getfield 91, 3) := dec_2 oX12_fillsMatches (of180 _) 0 91 rfl rfl
theorem dX12_fillsMatches_58 : decode cX12_fillsMatches 58 = .ok (.iload_n 2, 1) := dec_0 oX12_fillsMatches (of28 _) rfl
theorem dX12_fillsMatches_59 : decode cX12_fillsMatches 59 = .ok (.iaload, 1) := dec_0 oX12_fillsMatches (of46 _) rfl
theorem dX12_fillsMatches_60 : decode cX12_fillsMatches 60 = .ok (.if_icmp .ge 5, 3) := dec_s2 oX12_fillsMatches (of162 _) 0 5 rfl (sg16p rfl) rfl
theorem dX12_fillsMatches_63 : decode cX12_fillsMatches 63 = .ok (.iload_n 3, 1) := dec_0 oX12_fillsMatches (of29 _) rfl
theorem dX12_fillsMatches_64 : decode cX12_fillsMatches 64 = .ok (.istore_n 2, 1) := dec_0 oX12_fillsMatches (of61 _) rfl
theorem dX12_fillsMatches_65 : decode cX12_fillsMatches 65 = .ok (.iinc 3 1, 3) := dec_ii oX12_fillsMatches (of132 _) 3 1 rfl (sg8p rfl) rfl
theorem dX12_fillsMatches_68 : decode cX12_fillsMatches 68 = .ok (.goto (-48), 3) := dec_s2 oX12_fillsMatches (of167 _) 255 208 rfl (sg16n (k := 48) rfl) rfl
theorem dX12_fillsMatches_71 : decode cX12_fillsMatches 71 = .ok (.iload_n 2, 1) := dec_0 oX12_fillsMatches (of28 _) rfl
theorem dX12_fillsMatches_72 : decode cX12_fillsMatches 72 = .ok (.ifCond .ge 4, 3) := dec_s2 oX12_fillsMatches (of156 _) 0 4 rfl (sg16p rfl) rfl
theorem dX12_fillsMatches_75 : decode cX12_fillsMatches 75 = .ok (.return_, 1) := dec_0 oX12_fillsMatches (of177 _) rfl
theorem dX12_fillsMatches_76 : decode cX12_fillsMatches 76 = .ok (.aload_n 0, 1) := dec_0 oX12_fillsMatches (of42 _) rfl
theorem dX12_fillsMatches_77 : decode cX12_fillsMatches 77 = .ok (.getfield 97, 3) := dec_2 oX12_fillsMatches (of180 _) 0 97 rfl rfl
theorem dX12_fillsMatches_80 : decode cX12_fillsMatches 80 = .ok (.aload_n 0, 1) := dec_0 oX12_fillsMatches (of42 _) rfl
theorem dX12_fillsMatches_81 : decode cX12_fillsMatches 81 = .ok (.getfield 366, 3) := dec_2 oX12_fillsMatches (of180 _) 1 110 rfl rfl
theorem dX12_fillsMatches_84 : decode cX12_fillsMatches 84 = .ok (.iload_n 2, 1) := dec_0 oX12_fillsMatches (of28 _) rfl
theorem dX12_fillsMatches_85 : decode cX12_fillsMatches 85 = .ok (.iastore, 1) := dec_0 oX12_fillsMatches (of79 _) rfl
theorem dX12_fillsMatches_86 : decode cX12_fillsMatches 86 = .ok (.aload_n 0, 1) := dec_0 oX12_fillsMatches (of42 _) rfl
theorem dX12_fillsMatches_87 : decode cX12_fillsMatches 87 = .ok (.dup, 1) := dec_0 oX12_fillsMatches (of89 _) rfl
theorem dX12_fillsMatches_88 : decode cX12_fillsMatches 88 = .ok (.getfield 366, 3) := dec_2 oX12_fillsMatches (of180 _) 1 110 rfl rfl
theorem dX12_fillsMatches_91 : decode cX12_fillsMatches 91 = .ok (.iconst 1, 1) := dec_0 oX12_fillsMatches (of4 _) rfl
theorem dX12_fillsMatches_92 : decode cX12_fillsMatches 92 = .ok (.iadd, 1) := dec_0 oX12_fillsMatches (of96 _) rfl
theorem dX12_fillsMatches_93 : decode cX12_fillsMatches 93 = .ok (.putfield 366, 3) := dec_2 oX12_fillsMatches (of181 _) 1 110 rfl rfl
theorem dX12_fillsMatches_96 : decode cX12_fillsMatches 96 = .ok (.goto (-84), 3) := dec_s2 oX12_fillsMatches (of167 _) 255 172 rfl (sg16n (k := 84) rfl) rfl
theorem dX12_fillsMatches_99 : decode cX12_fillsMatches 99 = .ok (.return_, 1) := dec_0 oX12_fillsMatches (of177 _) rfl
theorem dX12_match_8 : decode cX12_match 8 = .ok (.iload_n 2, 1) := dec_0 oX12_match (of28 _) rfl
theorem dX12_match_9 : decode cX12_match 9 = .ok (.ifCond .lt 12, 3) := dec_s2 oX12_match (of155 _) 0 12 rfl (sg16p rfl) rfl
theorem dX12_match_12 : decode cX12_match 12 = .ok (.iload_n 3, 1) := dec_0 oX12_match (of29 _) rfl
theorem dX12_match_13 : decode cX12_match 13 = .ok (.iconst 0, 1) := dec_0 oX12_match (of3 _) rfl
theorem dX12_match_14 : decode cX12_match 14 = .ok (.iconst 1, 1) := dec_0 oX12_match (of4 _) rfl
theorem dX12_match_15 : decode cX12_match 15 = .ok (.invokestatic 244, 3) := dec_2 oX12_match (of184 _) 0 244 rfl rfl
theorem dX12_match_18 : decode cX12_match 18 = .ok (.ifCond .ne 5, 3) := dec_s2 oX12_match (of154 _) 0 5 rfl (sg16p rfl) rfl
theorem dX12_match_23 : decode cX12_match 23 = .ok (.aload_n 0, 1) := dec_0 oX12_match (of42 _) rfl
theorem dX12_match_24 : decode cX12_match 24 = .ok (.iload_n 1, 1) := dec_0 oX12_match (of27 _) rfl
theorem dX12_match_25 : decode cX12_match 25 = .ok (.invokevirtual 372, 3) := dec_2 oX12_match (of182 _) 1 116 rfl rfl
theorem dX12_match_28 : decode cX12_match 28 = .ok (.iload_n 2, 1) := dec_0 oX12_match (of28 _) rfl
theorem dX12_match_29 : decode cX12_match 29 = .ok (.aload_n 0, 1) := dec_0 oX12_match (of42 _) rfl
theorem dX12_match_30 : decode cX12_match 30 = .ok (.getfield 366, 3) := dec_2 oX12_match (of180 _) 1 110 rfl rfl
theorem dX12_match_33 : decode cX12_match 33 = .ok (.if_icmp .lt 6, 3) := dec_s2 oX12_match (of161 _) 0 6 rfl (sg16p rfl) rfl
theorem dX12_match_36 : decode cX12_match 36 = .ok (.bipush (-2), 2) := dec_s1 oX12_match (of16 _) 254 rfl (sg8n (k := 2) rfl) rfl
theorem dX12_match_38 : decode cX12_match 38 = .ok (.ireturn, 1) := dec_0 oX12_match (of172 _) rfl
theorem dX12_match_39 : decode cX12_match 39 = .ok (.iload_n 3, 1) := dec_0 oX12_match (of29 _) rfl
theorem dX12_match_40 : decode cX12_match 40 = .ok (.ifCond .ne 12, 3) := dec_s2 oX12_match (of154 _) 0 12 rfl (sg16p rfl) rfl
theorem dX12_match_43 : decode cX12_match 43 = .ok (.aload_n 0, 1) := dec_0 oX12_match (of42 _) rfl
theorem dX12_match_44 : decode cX12_match 44 = .ok (.getfield 97, 3) := dec_2 oX12_match (of180 _) 0 97 rfl rfl
theorem dX12_match_47 : decode cX12_match 47 = .ok (.iload_n 2, 1) := dec_0 oX12_match (of28 _) rfl
theorem dX12_match_48 : decode cX12_match 48 = .ok (.iaload, 1) := dec_0 oX12_match (of46 _) rfl
theorem dX12_match_49 : decode cX12_match 49 = .ok (.goto 14, 3) := dec_s2 oX12_match (of167 _) 0 14 rfl (sg16p rfl) rfl
theorem dX12_match_52 : decode cX12_match 52 = .ok (.aload_n 0, 1) := dec_0 oX12_match (of42 _) rfl
theorem dX12_match_53 : decode cX12_match 53 = .ok (.getfield 91, 3) := dec_2 oX12_match (of180 _) 0 91 rfl rfl
theorem dX12_match_56 : decode cX12_match 56 = .ok (.aload_n 0, 1) := dec_0 oX12_match (of42 _) rfl
theorem dX12_match_57 : decode cX12_match 57 = .ok (.getfield 97, 3) := dec_2 oX12_match (of180 _) 0 97 rfl rfl
theorem dX12_match_60 : decode cX12_match 60 = .ok (.iload_n 2, 1) := dec_0 oX12_match (of28 _) rfl
theorem dX12_match_61 : decode cX12_match 61 = .ok (.iaload, 1) := dec_0 oX12_match (of46 _) rfl
theorem dX12_match_62 : decode cX12_match 62 = .ok (.iaload, 1) := dec_0 oX12_match (of46 _) rfl
theorem dX12_match_63 : decode cX12_match 63 = .ok (.ireturn, 1) := dec_0 oX12_match (of172 _) rfl
theorem dX12_within_8 : decode cX12_within 8 = .ok (.iload_n 2, 1) := dec_0 oX12_within (of28 _) rfl
theorem dX12_within_9 : decode cX12_within 9 = .ok (.ifCond .ge 5, 3) := dec_s2 oX12_within (of156 _) 0 5 rfl (sg16p rfl) rfl
theorem dX12_within_14 : decode cX12_within 14 = .ok (.aload_n 0, 1) := dec_0 oX12_within (of42 _) rfl
theorem dX12_within_15 : decode cX12_within 15 = .ok (.iload_n 1, 1) := dec_0 oX12_within (of27 _) rfl
theorem dX12_within_16 : decode cX12_within 16 = .ok (.invokevirtual 372, 3) := dec_2 oX12_within (of182 _) 1 116 rfl rfl
theorem dX12_within_19 : decode cX12_within 19 = .ok (.iconst 0, 1) := dec_0 oX12_within (of3 _) rfl
theorem dX12_within_20 : decode cX12_within 20 = .ok (.istore_n 3, 1) := dec_0 oX12_within (of62 _) rfl
theorem dX12_within_21 : decode cX12_within 21 = .ok (.iconst 0, 1) := dec_0 oX12_within (of3 _) rfl
theorem dX12_within_22 : decode cX12_within 22 = .ok (.istore 4, 2) := dec_1 oX12_within (of54 _) 4 rfl rfl
theorem dX12_within_24 : decode cX12_within 24 = .ok (.iload 4, 2) := dec_1 oX12_within (of21 _) 4 rfl rfl
theorem dX12_within_26 : decode cX12_within 26 = .ok (.aload_n 0, 1) := dec_0 oX12_within (of42 _) rfl
theorem dX12_within_27 : decode cX12_within 27 = .ok (.getfield 366, 3) := dec_2 oX12_within (of180 _) 1 110 rfl rfl
theorem dX12_within_30 : decode cX12_within 30 = .ok (.if_icmp .ge 28, 3) := dec_s2 oX12_within (of162 _) 0 28 rfl (sg16p rfl) rfl
theorem dX12_within_33 : decode cX12_within 33 = .ok (.aload_n 0, 1) := dec_0 oX12_within (of42 _) rfl
theorem dX12_within_34 : decode cX12_within 34 = .ok (.getfield 91, 3) := dec_2 oX12_within (of180 _) 0 91 rfl rfl
theorem dX12_within_37 : decode cX12_within 37 = .ok (.aload_n 0, 1) := dec_0 oX12_within (of42 _) rfl
theorem dX12_within_38 : decode cX12_within 38 = .ok (.getfield 97, 3) := dec_2 oX12_within (of180 _) 0 97 rfl rfl
theorem dX12_within_41 : decode cX12_within 41 = .ok (.iload 4, 2) := dec_1 oX12_within (of21 _) 4 rfl rfl
theorem dX12_within_43 : decode cX12_within 43 = .ok (.iaload, 1) := dec_0 oX12_within (of46 _) rfl
theorem dX12_within_44 : decode cX12_within 44 = .ok (.iaload, 1) := dec_0 oX12_within (of46 _) rfl
theorem dX12_within_45 : decode cX12_within 45 = .ok (.iload_n 2, 1) := dec_0 oX12_within (of28 _) rfl
theorem dX12_within_46 : decode cX12_within 46 = .ok (.if_icmp .gt 6, 3) := dec_s2 oX12_within (of163 _) 0 6 rfl (sg16p rfl) rfl
theorem dX12_within_49 : decode cX12_within 49 = .ok (.iinc 3 1, 3) := dec_ii oX12_within (of132 _) 3 1 rfl (sg8p rfl) rfl
theorem dX12_within_52 : decode cX12_within 52 = .ok (.iinc 4 1, 3) := dec_ii oX12_within (of132 _) 4 1 rfl (sg8p rfl) rfl
theorem dX12_within_55 : decode cX12_within 55 = .ok (.goto (-31), 3) := dec_s2 oX12_within (of167 _) 255 225 rfl (sg16n (k := 31) rfl) rfl
theorem dX12_within_58 : decode cX12_within 58 = .ok (.iload_n 3, 1) := dec_0 oX12_within (of29 _) rfl
theorem dX12_within_59 : decode cX12_within 59 = .ok (.ireturn, 1) := dec_0 oX12_within (of172 _) rfl
theorem dX12_cover_8 : decode cX12_cover 8 = .ok (.iload_n 2, 1) := dec_0 oX12_cover (of28 _) rfl
theorem dX12_cover_9 : decode cX12_cover 9 = .ok (.ifCond .ge 5, 3) := dec_s2 oX12_cover (of156 _) 0 5 rfl (sg16p rfl) rfl
theorem dX12_cover_14 : decode cX12_cover 14 = .ok (.aload_n 0, 1) := dec_0 oX12_cover (of42 _) rfl
theorem dX12_cover_15 : decode cX12_cover 15 = .ok (.iload_n 1, 1) := dec_0 oX12_cover (of27 _) rfl
theorem dX12_cover_16 : decode cX12_cover 16 = .ok (.invokevirtual 372, 3) := dec_2 oX12_cover (of182 _) 1 116 rfl rfl
theorem dX12_cover_19 : decode cX12_cover 19 = .ok (.iconst 0, 1) := dec_0 oX12_cover (of3 _) rfl
theorem dX12_cover_20 : decode cX12_cover 20 = .ok (.istore_n 3, 1) := dec_0 oX12_cover (of62 _) rfl
theorem dX12_cover_21 : decode cX12_cover 21 = .ok (.iconst 0, 1) := dec_0 oX12_cover (of3 _) rfl
theorem dX12_cover_22 : decode cX12_cover 22 = .ok (.istore 4, 2) := dec_1 oX12_cover (of54 _) 4 rfl rfl
theorem dX12_cover_24 : decode cX12_cover 24 = .ok (.iload 4, 2) := dec_1 oX12_cover (of21 _) 4 rfl rfl
theorem dX12_cover_26 : decode cX12_cover 26 = .ok (.aload_n 0, 1) := dec_0 oX12_cover (of42 _) rfl
theorem dX12_cover_27 : decode cX12_cover 27 = .ok (.getfield 70, 3) := dec_2 oX12_cover (of180 _) 0 70 rfl rfl
theorem dX12_cover_30 : decode cX12_cover 30 = .ok (.iconst 0, 1) := dec_0 oX12_cover (of3 _) rfl
theorem dX12_cover_31 : decode cX12_cover 31 = .ok (.iaload, 1) := dec_0 oX12_cover (of46 _) rfl
theorem dX12_cover_32 : decode cX12_cover 32 = .ok (.if_icmp .ge 81, 3) := dec_s2 oX12_cover (of162 _) 0 81 rfl (sg16p rfl) rfl
theorem dX12_cover_35 : decode cX12_cover 35 = .ok (.iconst 0, 1) := dec_0 oX12_cover (of3 _) rfl
theorem dX12_cover_36 : decode cX12_cover 36 = .ok (.istore 5, 2) := dec_1 oX12_cover (of54 _) 5 rfl rfl
theorem dX12_cover_38 : decode cX12_cover 38 = .ok (.iconst 0, 1) := dec_0 oX12_cover (of3 _) rfl
theorem dX12_cover_39 : decode cX12_cover 39 = .ok (.istore 6, 2) := dec_1 oX12_cover (of54 _) 6 rfl rfl
theorem dX12_cover_41 : decode cX12_cover 41 = .ok (.iload 6, 2) := dec_1 oX12_cover (of21 _) 6 rfl rfl
theorem dX12_cover_43 : decode cX12_cover 43 = .ok (.aload_n 0, 1) := dec_0 oX12_cover (of42 _) rfl
theorem dX12_cover_44 : decode cX12_cover 44 = .ok (.getfield 366, 3) := dec_2 oX12_cover (of180 _) 1 110 rfl rfl
theorem dX12_cover_47 : decode cX12_cover 47 = .ok (.if_icmp .ge 52, 3) := dec_s2 oX12_cover (of162 _) 0 52 rfl (sg16p rfl) rfl
theorem dX12_cover_50 : decode cX12_cover 50 = .ok (.aload_n 0, 1) := dec_0 oX12_cover (of42 _) rfl
theorem dX12_cover_51 : decode cX12_cover 51 = .ok (.getfield 91, 3) := dec_2 oX12_cover (of180 _) 0 91 rfl rfl
theorem dX12_cover_54 : decode cX12_cover 54 = .ok (.aload_n 0, 1) := dec_0 oX12_cover (of42 _) rfl
theorem dX12_cover_55 : decode cX12_cover 55 = .ok (.getfield 97, 3) := dec_2 oX12_cover (of180 _) 0 97 rfl rfl
theorem dX12_cover_58 : decode cX12_cover 58 = .ok (.iload 6, 2) := dec_1 oX12_cover (of21 _) 6 rfl rfl
theorem dX12_cover_60 : decode cX12_cover 60 = .ok (.iaload, 1) := dec_0 oX12_cover (of46 _) rfl
theorem dX12_cover_61 : decode cX12_cover 61 = .ok (.iaload, 1) := dec_0 oX12_cover (of46 _) rfl
theorem dX12_cover_62 : decode cX12_cover 62 = .ok (.iload_n 2, 1) := dec_0 oX12_cover (of28 _) rfl
theorem dX12_cover_63 : decode cX12_cover 63 = .ok (.if_icmp .gt 30, 3) := dec_s2 oX12_cover (of163 _) 0 30 rfl (sg16p rfl) rfl
theorem dX12_cover_66 : decode cX12_cover 66 = .ok (.iload 4, 2) := dec_1 oX12_cover (of21 _) 4 rfl rfl
theorem dX12_cover_68 : decode cX12_cover 68 = .ok (.aload_n 0, 1) := dec_0 oX12_cover (of42 _) rfl
theorem dX12_cover_69 : decode cX12_cover 69 = .ok (.getfield 97, 3) := dec_2 oX12_cover (of180 _) 0 97 rfl rfl
theorem dX12_cover_72 : decode cX12_cover 72 = .ok (.iload 6, 2) := dec_1 oX12_cover (of21 _) 6 rfl rfl
theorem dX12_cover_74 : decode cX12_cover 74 = .ok (.iaload, 1) := dec_0 oX12_cover (of46 _) rfl
theorem dX12_cover_75 : decode cX12_cover 75 = .ok (.isub, 1) := dec_0 oX12_cover (of100 _) rfl
theorem dX12_cover_76 : decode cX12_cover 76 = .ok (.iconst 0, 1) := dec_0 oX12_cover (of3 _) rfl
theorem dX12_cover_77 : decode cX12_cover 77 = .ok (.aload_n 0, 1) := dec_0 oX12_cover (of42 _) rfl
theorem dX12_cover_78 : decode cX12_cover 78 = .ok (.iload_n 1, 1) := dec_0 oX12_cover (of27 _) rfl
theorem dX12_cover_79 : decode cX12_cover 79 = .ok (.invokevirtual 254, 3) := dec_2 oX12_cover (of182 _) 0 254 rfl rfl
theorem dX12_cover_82 : decode cX12_cover 82 = .ok (.iconst 1, 1) := dec_0 oX12_cover (of4 _) rfl
theorem dX12_cover_83 : decode cX12_cover 83 = .ok (.isub, 1) := dec_0 oX12_cover (of100 _) rfl
theorem dX12_cover_84 : decode cX12_cover 84 = .ok (.invokestatic 244, 3) := dec_2 oX12_cover (of184 _) 0 244 rfl rfl
theorem dX12_cover_87 : decode cX12_cover 87 = .ok (.ifCond .eq 6, 3) := dec_s2 oX12_cover (of153 _) 0 6 rfl (sg16p rfl) rfl
theorem dX12_cover_90 : decode cX12_cover 90 = .ok (.iconst 1, 1) := dec_0 oX12_cover (of4 _) rfl
theorem dX12_cover_91 : decode cX12_cover 91 = .ok (.istore 5, 2) := dec_1 oX12_cover (of54 _) 5 rfl rfl
theorem dX12_cover_93 : decode cX12_cover 93 = .ok (.iinc 6 1, 3) := dec_ii oX12_cover (of132 _) 6 1 rfl (sg8p rfl) rfl
theorem dX12_cover_96 : decode cX12_cover 96 = .ok (.goto (-55), 3) := dec_s2 oX12_cover (of167 _) 255 201 rfl (sg16n (k := 55) rfl) rfl
theorem dX12_cover_99 : decode cX12_cover 99 = .ok (.iload 5, 2) := dec_1 oX12_cover (of21 _) 5 rfl rfl
theorem dX12_cover_101 : decode cX12_cover 101 = .ok (.ifCond .eq 6, 3) := dec_s2 oX12_cover (of153 _) 0 6 rfl (sg16p rfl) rfl
theorem dX12_cover_104 : decode cX12_cover 104 = .ok (.iinc 3 1, 3) := dec_ii oX12_cover (of132 _) 3 1 rfl (sg8p rfl) rfl
theorem dX12_cover_107 : decode cX12_cover 107 = .ok (.iinc 4 1, 3) := dec_ii oX12_cover (of132 _) 4 1 rfl (sg8p rfl) rfl
theorem dX12_cover_110 : decode cX12_cover 110 = .ok (.goto (-86), 3) := dec_s2 oX12_cover (of167 _) 255 170 rfl (sg16n (k := 86) rfl) rfl
theorem dX12_cover_113 : decode cX12_cover 113 = .ok (.iload_n 3, 1) := dec_0 oX12_cover (of29 _) rfl
theorem dX12_cover_114 : decode cX12_cover 114 = .ok (.ireturn, 1) := dec_0 oX12_cover (of172 _) rfl
theorem dX12_rankOf_0 : decode cX12_rankOf 0 = .ok (.iconst 0, 1) := dec_0 oX12_rankOf (of3 _) rfl
theorem dX12_rankOf_1 : decode cX12_rankOf 1 = .ok (.istore_n 2, 1) := dec_0 oX12_rankOf (of61 _) rfl
theorem dX12_rankOf_2 : decode cX12_rankOf 2 = .ok (.iconst 0, 1) := dec_0 oX12_rankOf (of3 _) rfl
theorem dX12_rankOf_3 : decode cX12_rankOf 3 = .ok (.istore_n 3, 1) := dec_0 oX12_rankOf (of62 _) rfl
theorem dX12_rankOf_4 : decode cX12_rankOf 4 = .ok (.iload_n 3, 1) := dec_0 oX12_rankOf (of29 _) rfl
theorem dX12_rankOf_5 : decode cX12_rankOf 5 = .ok (.sipush 160, 3) := dec_s2 oX12_rankOf (of17 _) 0 160 rfl (sg16p rfl) rfl
theorem dX12_rankOf_8 : decode cX12_rankOf 8 = .ok (.if_icmp .ge 56, 3) := dec_s2 oX12_rankOf (of162 _) 0 56 rfl (sg16p rfl) rfl
theorem dX12_rankOf_11 : decode cX12_rankOf 11 = .ok (.aload_n 0, 1) := dec_0 oX12_rankOf (of42 _) rfl
theorem dX12_rankOf_12 : decode cX12_rankOf 12 = .ok (.getfield 91, 3) := dec_2 oX12_rankOf (of180 _) 0 91 rfl rfl
theorem dX12_rankOf_15 : decode cX12_rankOf 15 = .ok (.iload_n 3, 1) := dec_0 oX12_rankOf (of29 _) rfl
theorem dX12_rankOf_16 : decode cX12_rankOf 16 = .ok (.iaload, 1) := dec_0 oX12_rankOf (of46 _) rfl
theorem dX12_rankOf_17 : decode cX12_rankOf 17 = .ok (.ifCond .lt 41, 3) := dec_s2 oX12_rankOf (of155 _) 0 41 rfl (sg16p rfl) rfl
theorem dX12_rankOf_20 : decode cX12_rankOf 20 = .ok (.aload_n 0, 1) := dec_0 oX12_rankOf (of42 _) rfl
theorem dX12_rankOf_21 : decode cX12_rankOf 21 = .ok (.getfield 91, 3) := dec_2 oX12_rankOf (of180 _) 0 91 rfl rfl
theorem dX12_rankOf_24 : decode cX12_rankOf 24 = .ok (.iload_n 3, 1) := dec_0 oX12_rankOf (of29 _) rfl
theorem dX12_rankOf_25 : decode cX12_rankOf 25 = .ok (.iaload, 1) := dec_0 oX12_rankOf (of46 _) rfl
theorem dX12_rankOf_26 : decode cX12_rankOf 26 = .ok (.aload_n 0, 1) := dec_0 oX12_rankOf (of42 _) rfl
theorem dX12_rankOf_27 : decode cX12_rankOf 27 = .ok (.getfield 91, 3) := dec_2 oX12_rankOf (of180 _) 0 91 rfl rfl
theorem dX12_rankOf_30 : decode cX12_rankOf 30 = .ok (.iload_n 1, 1) := dec_0 oX12_rankOf (of27 _) rfl
theorem dX12_rankOf_31 : decode cX12_rankOf 31 = .ok (.iaload, 1) := dec_0 oX12_rankOf (of46 _) rfl
theorem dX12_rankOf_32 : decode cX12_rankOf 32 = .ok (.if_icmp .lt 23, 3) := dec_s2 oX12_rankOf (of161 _) 0 23 rfl (sg16p rfl) rfl
theorem dX12_rankOf_35 : decode cX12_rankOf 35 = .ok (.aload_n 0, 1) := dec_0 oX12_rankOf (of42 _) rfl
theorem dX12_rankOf_36 : decode cX12_rankOf 36 = .ok (.getfield 91, 3) := dec_2 oX12_rankOf (of180 _) 0 91 rfl rfl
theorem dX12_rankOf_39 : decode cX12_rankOf 39 = .ok (.iload_n 3, 1) := dec_0 oX12_rankOf (of29 _) rfl
theorem dX12_rankOf_40 : decode cX12_rankOf 40 = .ok (.iaload, 1) := dec_0 oX12_rankOf (of46 _) rfl
theorem dX12_rankOf_41 : decode cX12_rankOf 41 = .ok (.aload_n 0, 1) := dec_0 oX12_rankOf (of42 _) rfl
theorem dX12_rankOf_42 : decode cX12_rankOf 42 = .ok (.getfield 91, 3) := dec_2 oX12_rankOf (of180 _) 0 91 rfl rfl
theorem dX12_rankOf_45 : decode cX12_rankOf 45 = .ok (.iload_n 1, 1) := dec_0 oX12_rankOf (of27 _) rfl
theorem dX12_rankOf_46 : decode cX12_rankOf 46 = .ok (.iaload, 1) := dec_0 oX12_rankOf (of46 _) rfl
theorem dX12_rankOf_47 : decode cX12_rankOf 47 = .ok (.if_icmp .ne 11, 3) := dec_s2 oX12_rankOf (of160 _) 0 11 rfl (sg16p rfl) rfl
theorem dX12_rankOf_50 : decode cX12_rankOf 50 = .ok (.iload_n 3, 1) := dec_0 oX12_rankOf (of29 _) rfl
theorem dX12_rankOf_51 : decode cX12_rankOf 51 = .ok (.iload_n 1, 1) := dec_0 oX12_rankOf (of27 _) rfl
theorem dX12_rankOf_52 : decode cX12_rankOf 52 = .ok (.if_icmp .ge 6, 3) := dec_s2 oX12_rankOf (of162 _) 0 6 rfl (sg16p rfl) rfl
theorem dX12_rankOf_55 : decode cX12_rankOf 55 = .ok (.iinc 2 1, 3) := dec_ii oX12_rankOf (of132 _) 2 1 rfl (sg8p rfl) rfl
theorem dX12_rankOf_58 : decode cX12_rankOf 58 = .ok (.iinc 3 1, 3) := dec_ii oX12_rankOf (of132 _) 3 1 rfl (sg8p rfl) rfl
theorem dX12_rankOf_61 : decode cX12_rankOf 61 = .ok (.goto (-57), 3) := dec_s2 oX12_rankOf (of167 _) 255 199 rfl (sg16n (k := 57) rfl) rfl
theorem dX12_rankOf_64 : decode cX12_rankOf 64 = .ok (.iload_n 2, 1) := dec_0 oX12_rankOf (of28 _) rfl
theorem dX12_rankOf_65 : decode cX12_rankOf 65 = .ok (.ireturn, 1) := dec_0 oX12_rankOf (of172 _) rfl
theorem dX12_rank_11 : decode cX12_rank 11 = .ok (.aload_n 0, 1) := dec_0 oX12_rank (of42 _) rfl
theorem dX12_rank_12 : decode cX12_rank 12 = .ok (.iload_n 1, 1) := dec_0 oX12_rank (of27 _) rfl
theorem dX12_rank_13 : decode cX12_rank 13 = .ok (.invokevirtual 357, 3) := dec_2 oX12_rank (of182 _) 1 101 rfl rfl
theorem dX12_rank_16 : decode cX12_rank 16 = .ok (.aload_n 0, 1) := dec_0 oX12_rank (of42 _) rfl
theorem dX12_rank_17 : decode cX12_rank 17 = .ok (.iload_n 2, 1) := dec_0 oX12_rank (of28 _) rfl
theorem dX12_rank_18 : decode cX12_rank 18 = .ok (.invokevirtual 375, 3) := dec_2 oX12_rank (of182 _) 1 119 rfl rfl
theorem dX12_rank_21 : decode cX12_rank 21 = .ok (.ireturn, 1) := dec_0 oX12_rank (of172 _) rfl
theorem dX12_kth_8 : decode cX12_kth 8 = .ok (.iload_n 2, 1) := dec_0 oX12_kth (of28 _) rfl
theorem dX12_kth_9 : decode cX12_kth 9 = .ok (.ifCond .lt 12, 3) := dec_s2 oX12_kth (of155 _) 0 12 rfl (sg16p rfl) rfl
theorem dX12_kth_12 : decode cX12_kth 12 = .ok (.iload_n 3, 1) := dec_0 oX12_kth (of29 _) rfl
theorem dX12_kth_13 : decode cX12_kth 13 = .ok (.iconst 0, 1) := dec_0 oX12_kth (of3 _) rfl
theorem dX12_kth_14 : decode cX12_kth 14 = .ok (.iconst 1, 1) := dec_0 oX12_kth (of4 _) rfl
theorem dX12_kth_15 : decode cX12_kth 15 = .ok (.invokestatic 244, 3) := dec_2 oX12_kth (of184 _) 0 244 rfl rfl
theorem dX12_kth_18 : decode cX12_kth 18 = .ok (.ifCond .ne 5, 3) := dec_s2 oX12_kth (of154 _) 0 5 rfl (sg16p rfl) rfl
theorem dX12_kth_23 : decode cX12_kth 23 = .ok (.aload_n 0, 1) := dec_0 oX12_kth (of42 _) rfl
theorem dX12_kth_24 : decode cX12_kth 24 = .ok (.iload_n 1, 1) := dec_0 oX12_kth (of27 _) rfl
theorem dX12_kth_25 : decode cX12_kth 25 = .ok (.invokevirtual 357, 3) := dec_2 oX12_kth (of182 _) 1 101 rfl rfl
theorem dX12_kth_28 : decode cX12_kth 28 = .ok (.iconst 0, 1) := dec_0 oX12_kth (of3 _) rfl
theorem dX12_kth_29 : decode cX12_kth 29 = .ok (.istore 4, 2) := dec_1 oX12_kth (of54 _) 4 rfl rfl
theorem dX12_kth_31 : decode cX12_kth 31 = .ok (.iload 4, 2) := dec_1 oX12_kth (of21 _) 4 rfl rfl
theorem dX12_kth_33 : decode cX12_kth 33 = .ok (.sipush 160, 3) := dec_s2 oX12_kth (of17 _) 0 160 rfl (sg16p rfl) rfl
theorem dX12_kth_36 : decode cX12_kth 36 = .ok (.if_icmp .ge 46, 3) := dec_s2 oX12_kth (of162 _) 0 46 rfl (sg16p rfl) rfl
theorem dX12_kth_39 : decode cX12_kth 39 = .ok (.aload_n 0, 1) := dec_0 oX12_kth (of42 _) rfl
theorem dX12_kth_40 : decode cX12_kth 40 = .ok (.getfield 91, 3) := dec_2 oX12_kth (of180 _) 0 91 rfl rfl
theorem dX12_kth_43 : decode cX12_kth 43 = .ok (.iload 4, 2) := dec_1 oX12_kth (of21 _) 4 rfl rfl
theorem dX12_kth_45 : decode cX12_kth 45 = .ok (.iaload, 1) := dec_0 oX12_kth (of46 _) rfl
theorem dX12_kth_46 : decode cX12_kth 46 = .ok (.ifCond .lt 30, 3) := dec_s2 oX12_kth (of155 _) 0 30 rfl (sg16p rfl) rfl
theorem dX12_kth_49 : decode cX12_kth 49 = .ok (.aload_n 0, 1) := dec_0 oX12_kth (of42 _) rfl
theorem dX12_kth_50 : decode cX12_kth 50 = .ok (.iload 4, 2) := dec_1 oX12_kth (of21 _) 4 rfl rfl
theorem dX12_kth_52 : decode cX12_kth 52 = .ok (.invokevirtual 375, 3) := dec_2 oX12_kth (of182 _) 1 119 rfl rfl
theorem dX12_kth_55 : decode cX12_kth 55 = .ok (.iload_n 2, 1) := dec_0 oX12_kth (of28 _) rfl
theorem dX12_kth_56 : decode cX12_kth 56 = .ok (.if_icmp .ne 20, 3) := dec_s2 oX12_kth (of160 _) 0 20 rfl (sg16p rfl) rfl
theorem dX12_kth_59 : decode cX12_kth 59 = .ok (.iload_n 3, 1) := dec_0 oX12_kth (of29 _) rfl
theorem dX12_kth_60 : decode cX12_kth 60 = .ok (.ifCond .ne 8, 3) := dec_s2 oX12_kth (of154 _) 0 8 rfl (sg16p rfl) rfl
theorem dX12_kth_63 : decode cX12_kth 63 = .ok (.iload 4, 2) := dec_1 oX12_kth (of21 _) 4 rfl rfl
theorem dX12_kth_65 : decode cX12_kth 65 = .ok (.goto 10, 3) := dec_s2 oX12_kth (of167 _) 0 10 rfl (sg16p rfl) rfl
theorem dX12_kth_68 : decode cX12_kth 68 = .ok (.aload_n 0, 1) := dec_0 oX12_kth (of42 _) rfl
theorem dX12_kth_69 : decode cX12_kth 69 = .ok (.getfield 91, 3) := dec_2 oX12_kth (of180 _) 0 91 rfl rfl
theorem dX12_kth_72 : decode cX12_kth 72 = .ok (.iload 4, 2) := dec_1 oX12_kth (of21 _) 4 rfl rfl
theorem dX12_kth_74 : decode cX12_kth 74 = .ok (.iaload, 1) := dec_0 oX12_kth (of46 _) rfl
theorem dX12_kth_75 : decode cX12_kth 75 = .ok (.ireturn, 1) := dec_0 oX12_kth (of172 _) rfl
theorem dX12_kth_76 : decode cX12_kth 76 = .ok (.iinc 4 1, 3) := dec_ii oX12_kth (of132 _) 4 1 rfl (sg8p rfl) rfl
theorem dX12_kth_79 : decode cX12_kth 79 = .ok (.goto (-48), 3) := dec_s2 oX12_kth (of167 _) 255 208 rfl (sg16n (k := 48) rfl) rfl
theorem dX12_kth_82 : decode cX12_kth 82 = .ok (.bipush (-2), 2) := dec_s1 oX12_kth (of16 _) 254 rfl (sg8n (k := 2) rfl) rfl
theorem dX12_kth_84 : decode cX12_kth 84 = .ok (.ireturn, 1) := dec_0 oX12_kth (of172 _) rfl
theorem dX12_greater_0 : decode cX12_greater 0 = .ok (.iload_n 0, 1) := dec_0 oX12_greater (of26 _) rfl
theorem dX12_greater_1 : decode cX12_greater 1 = .ok (.iload_n 1, 1) := dec_0 oX12_greater (of27 _) rfl
theorem dX12_greater_2 : decode cX12_greater 2 = .ok (.if_icmp .le 7, 3) := dec_s2 oX12_greater (of164 _) 0 7 rfl (sg16p rfl) rfl
theorem dX12_greater_5 : decode cX12_greater 5 = .ok (.iload_n 0, 1) := dec_0 oX12_greater (of26 _) rfl
theorem dX12_greater_6 : decode cX12_greater 6 = .ok (.goto 4, 3) := dec_s2 oX12_greater (of167 _) 0 4 rfl (sg16p rfl) rfl
theorem dX12_greater_9 : decode cX12_greater 9 = .ok (.iload_n 1, 1) := dec_0 oX12_greater (of27 _) rfl
theorem dX12_greater_10 : decode cX12_greater 10 = .ok (.ireturn, 1) := dec_0 oX12_greater (of172 _) rfl
theorem dX12_slack_10 : decode cX12_slack 10 = .ok (.aload_n 0, 1) := dec_0 oX12_slack (of42 _) rfl
theorem dX12_slack_11 : decode cX12_slack 11 = .ok (.invokevirtual 323, 3) := dec_2 oX12_slack (of182 _) 1 67 rfl rfl
theorem dX12_slack_14 : decode cX12_slack 14 = .ok (.iconst 0, 1) := dec_0 oX12_slack (of3 _) rfl
theorem dX12_slack_15 : decode cX12_slack 15 = .ok (.istore_n 2, 1) := dec_0 oX12_slack (of61 _) rfl
theorem dX12_slack_16 : decode cX12_slack 16 = .ok (.iconst 0, 1) := dec_0 oX12_slack (of3 _) rfl
theorem dX12_slack_17 : decode cX12_slack 17 = .ok (.istore_n 3, 1) := dec_0 oX12_slack (of62 _) rfl
theorem dX12_slack_18 : decode cX12_slack 18 = .ok (.iload_n 3, 1) := dec_0 oX12_slack (of29 _) rfl
theorem dX12_slack_19 : decode cX12_slack 19 = .ok (.sipush 160, 3) := dec_s2 oX12_slack (of17 _) 0 160 rfl (sg16p rfl) rfl
theorem dX12_slack_22 : decode cX12_slack 22 = .ok (.if_icmp .ge 53, 3) := dec_s2 oX12_slack (of162 _) 0 53 rfl (sg16p rfl) rfl
theorem dX12_slack_25 : decode cX12_slack 25 = .ok (.aload_n 0, 1) := dec_0 oX12_slack (of42 _) rfl
theorem dX12_slack_26 : decode cX12_slack 26 = .ok (.iload_n 1, 1) := dec_0 oX12_slack (of27 _) rfl
theorem dX12_slack_27 : decode cX12_slack 27 = .ok (.iload_n 3, 1) := dec_0 oX12_slack (of29 _) rfl
theorem dX12_slack_28 : decode cX12_slack 28 = .ok (.invokevirtual 342, 3) := dec_2 oX12_slack (of182 _) 1 86 rfl rfl
theorem dX12_slack_31 : decode cX12_slack 31 = .ok (.ifCond .ne 6, 3) := dec_s2 oX12_slack (of154 _) 0 6 rfl (sg16p rfl) rfl
theorem dX12_slack_34 : decode cX12_slack 34 = .ok (.goto 35, 3) := dec_s2 oX12_slack (of167 _) 0 35 rfl (sg16p rfl) rfl
theorem dX12_slack_37 : decode cX12_slack 37 = .ok (.aload_n 0, 1) := dec_0 oX12_slack (of42 _) rfl
theorem dX12_slack_38 : decode cX12_slack 38 = .ok (.iload_n 1, 1) := dec_0 oX12_slack (of27 _) rfl
theorem dX12_slack_39 : decode cX12_slack 39 = .ok (.iload_n 3, 1) := dec_0 oX12_slack (of29 _) rfl
theorem dX12_slack_40 : decode cX12_slack 40 = .ok (.invokevirtual 345, 3) := dec_2 oX12_slack (of182 _) 1 89 rfl rfl
theorem dX12_slack_43 : decode cX12_slack 43 = .ok (.istore 4, 2) := dec_1 oX12_slack (of54 _) 4 rfl rfl
theorem dX12_slack_45 : decode cX12_slack 45 = .ok (.iload_n 2, 1) := dec_0 oX12_slack (of28 _) rfl
theorem dX12_slack_46 : decode cX12_slack 46 = .ok (.iload 4, 2) := dec_1 oX12_slack (of21 _) 4 rfl rfl
theorem dX12_slack_48 : decode cX12_slack 48 = .ok (.aload_n 0, 1) := dec_0 oX12_slack (of42 _) rfl
theorem dX12_slack_49 : decode cX12_slack 49 = .ok (.invokevirtual 314, 3) := dec_2 oX12_slack (of182 _) 1 58 rfl rfl
theorem dX12_slack_52 : decode cX12_slack 52 = .ok (.aload_n 0, 1) := dec_0 oX12_slack (of42 _) rfl
theorem dX12_slack_53 : decode cX12_slack 53 = .ok (.invokevirtual 308, 3) := dec_2 oX12_slack (of182 _) 1 52 rfl rfl
theorem dX12_slack_56 : decode cX12_slack 56 = .ok (.aload_n 0, 1) := dec_0 oX12_slack (of42 _) rfl
theorem dX12_slack_57 : decode cX12_slack 57 = .ok (.invokevirtual 317, 3) := dec_2 oX12_slack (of182 _) 1 61 rfl rfl
theorem dX12_slack_60 : decode cX12_slack 60 = .ok (.invokestatic 378, 3) := dec_2 oX12_slack (of184 _) 1 122 rfl rfl
theorem dX12_slack_63 : decode cX12_slack 63 = .ok (.invokestatic 378, 3) := dec_2 oX12_slack (of184 _) 1 122 rfl rfl
theorem dX12_slack_66 : decode cX12_slack 66 = .ok (.isub, 1) := dec_0 oX12_slack (of100 _) rfl
theorem dX12_slack_67 : decode cX12_slack 67 = .ok (.iadd, 1) := dec_0 oX12_slack (of96 _) rfl
theorem dX12_slack_68 : decode cX12_slack 68 = .ok (.istore_n 2, 1) := dec_0 oX12_slack (of61 _) rfl
theorem dX12_slack_69 : decode cX12_slack 69 = .ok (.iinc 3 1, 3) := dec_ii oX12_slack (of132 _) 3 1 rfl (sg8p rfl) rfl
