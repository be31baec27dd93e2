theorem dX12_records_71 : decode cX12_records 71 = .ok (.iload_n 1, 1) := dec_0 oX12_records (of27 _) rfl
theorem dX12_records_72 : decode cX12_records 72 = .ok (.iadd, 1) := dec_0 oX12_records (of96 _) rfl
theorem dX12_records_73 : decode cX12_records 73 = .ok (.aload_n 0, 1) := dec_0 oX12_records (of42 _) rfl
theorem dX12_records_74 : decode cX12_records 74 = .ok (.getfield 70, 3) := dec_2 oX12_records (of180 _) 0 70 rfl rfl
theorem dX12_records_77 : decode cX12_records 77 = .ok (.iload_n 1, 1) := dec_0 oX12_records (of27 _) rfl
theorem dX12_records_78 : decode cX12_records 78 = .ok (.iaload, 1) := dec_0 oX12_records (of46 _) rfl
theorem dX12_records_79 : decode cX12_records 79 = .ok (.iastore, 1) := dec_0 oX12_records (of79 _) rfl
theorem dX12_records_80 : decode cX12_records 80 = .ok (.iinc 1 1, 3) := dec_ii oX12_records (of132 _) 1 1 rfl (sg8p rfl) rfl
theorem dX12_records_83 : decode cX12_records 83 = .ok (.goto (-31), 3) := dec_s2 oX12_records (of167 _) 255 225 rfl (sg16n (k := 31) rfl) rfl
theorem dX12_records_86 : decode cX12_records 86 = .ok (.aload_n 0, 1) := dec_0 oX12_records (of42 _) rfl
theorem dX12_records_87 : decode cX12_records 87 = .ok (.dup, 1) := dec_0 oX12_records (of89 _) rfl
theorem dX12_records_88 : decode cX12_records 88 = .ok (.getfield 209, 3) := dec_2 oX12_records (of180 _) 0 209 rfl rfl
theorem dX12_records_91 : decode cX12_records 91 = .ok (.iconst 1, 1) := dec_0 oX12_records (of4 _) rfl
theorem dX12_records_92 : decode cX12_records 92 = .ok (.iadd, 1) := dec_0 oX12_records (of96 _) rfl
theorem dX12_records_93 : decode cX12_records 93 = .ok (.putfield 209, 3) := dec_2 oX12_records (of181 _) 0 209 rfl rfl
theorem dX12_records_96 : decode cX12_records 96 = .ok (.aload_n 0, 1) := dec_0 oX12_records (of42 _) rfl
theorem dX12_records_97 : decode cX12_records 97 = .ok (.invokevirtual 121, 3) := dec_2 oX12_records (of182 _) 0 121 rfl rfl
theorem dX12_restore_0 : decode cX12_restore 0 = .ok (.iload_n 1, 1) := dec_0 oX12_restore (of27 _) rfl
theorem dX12_restore_1 : decode cX12_restore 1 = .ok (.iconst 0, 1) := dec_0 oX12_restore (of3 _) rfl
theorem dX12_restore_10 : decode cX12_restore 10 = .ok (.getfield 100, 3) := dec_2 oX12_restore (of180 _) 0 100 rfl rfl
theorem dX12_restore_13 : decode cX12_restore 13 = .ok (.iload_n 1, 1) := dec_0 oX12_restore (of27 _) rfl
theorem dX12_restore_14 : decode cX12_restore 14 = .ok (.baload, 1) := dec_0 oX12_restore (of51 _) rfl
theorem dX12_restore_15 : decode cX12_restore 15 = .ok (.ifCond .ne 5, 3) := dec_s2 oX12_restore (of154 _) 0 5 rfl (sg16p rfl) rfl
theorem dX12_restore_18 : decode cX12_restore 18 = .ok (.iconst 0, 1) := dec_0 oX12_restore (of3 _) rfl
theorem dX12_restore_19 : decode cX12_restore 19 = .ok (.ireturn, 1) := dec_0 oX12_restore (of172 _) rfl
theorem dX12_restore_2 : decode cX12_restore 2 = .ok (.iconst 2, 1) := dec_0 oX12_restore (of5 _) rfl
theorem dX12_restore_3 : decode cX12_restore 3 = .ok (.invokestatic 244, 3) := dec_2 oX12_restore (of184 _) 0 244 rfl rfl
theorem dX12_restore_6 : decode cX12_restore 6 = .ok (.ifCond .eq 12, 3) := dec_s2 oX12_restore (of153 _) 0 12 rfl (sg16p rfl) rfl
theorem dX12_restore_9 : decode cX12_restore 9 = .ok (.aload_n 0, 1) := dec_0 oX12_restore (of42 _) rfl
theorem dX12_search_0 : decode cX12_search 0 = .ok (.aload_n 0, 1) := dec_0 oX12_search (of42 _) rfl
theorem dX12_search_1 : decode cX12_search 1 = .ok (.iload_n 1, 1) := dec_0 oX12_search (of27 _) rfl
theorem dX12_search_18 : decode cX12_search 18 = .ok (.iconst (-1), 1) := dec_0 oX12_search (of2 _) rfl
theorem dX12_search_19 : decode cX12_search 19 = .ok (.ireturn, 1) := dec_0 oX12_search (of172 _) rfl
theorem dX12_search_2 : decode cX12_search 2 = .ok (.invokevirtual 251, 3) := dec_2 oX12_search (of182 _) 0 251 rfl rfl
theorem dX12_search_5 : decode cX12_search 5 = .ok (.ifCond .eq 13, 3) := dec_s2 oX12_search (of153 _) 0 13 rfl (sg16p rfl) rfl
theorem dX12_set_0 : decode cX12_set 0 = .ok (.iload_n 1, 1) := dec_0 oX12_set (of27 _) rfl
theorem dX12_set_1 : decode cX12_set 1 = .ok (.iconst 0, 1) := dec_0 oX12_set (of3 _) rfl
theorem dX12_set_10 : decode cX12_set 10 = .ok (.getfield 70, 3) := dec_2 oX12_set (of180 _) 0 70 rfl rfl
theorem dX12_set_13 : decode cX12_set 13 = .ok (.sipush 161, 3) := dec_s2 oX12_set (of17 _) 0 161 rfl (sg16p rfl) rfl
theorem dX12_set_16 : decode cX12_set 16 = .ok (.iload_n 1, 1) := dec_0 oX12_set (of27 _) rfl
theorem dX12_set_17 : decode cX12_set 17 = .ok (.iadd, 1) := dec_0 oX12_set (of96 _) rfl
theorem dX12_set_18 : decode cX12_set 18 = .ok (.iaload, 1) := dec_0 oX12_set (of46 _) rfl
theorem dX12_set_19 : decode cX12_set 19 = .ok (.iload_n 2, 1) := dec_0 oX12_set (of28 _) rfl
theorem dX12_set_2 : decode cX12_set 2 = .ok (.iconst 3, 1) := dec_0 oX12_set (of6 _) rfl
theorem dX12_set_20 : decode cX12_set 20 = .ok (.if_icmp .ne 5, 3) := dec_s2 oX12_set (of160 _) 0 5 rfl (sg16p rfl) rfl
theorem dX12_set_23 : decode cX12_set 23 = .ok (.iconst 0, 1) := dec_0 oX12_set (of3 _) rfl
theorem dX12_set_24 : decode cX12_set 24 = .ok (.ireturn, 1) := dec_0 oX12_set (of172 _) rfl
theorem dX12_set_25 : decode cX12_set 25 = .ok (.iload_n 1, 1) := dec_0 oX12_set (of27 _) rfl
theorem dX12_set_26 : decode cX12_set 26 = .ok (.iconst 3, 1) := dec_0 oX12_set (of6 _) rfl
theorem dX12_set_27 : decode cX12_set 27 = .ok (.if_icmp .ne 7, 3) := dec_s2 oX12_set (of160 _) 0 7 rfl (sg16p rfl) rfl
theorem dX12_set_3 : decode cX12_set 3 = .ok (.invokestatic 244, 3) := dec_2 oX12_set (of184 _) 0 244 rfl rfl
theorem dX12_set_30 : decode cX12_set 30 = .ok (.iconst 1, 1) := dec_0 oX12_set (of4 _) rfl
theorem dX12_set_31 : decode cX12_set 31 = .ok (.goto 4, 3) := dec_s2 oX12_set (of167 _) 0 4 rfl (sg16p rfl) rfl
theorem dX12_set_34 : decode cX12_set 34 = .ok (.iconst 0, 1) := dec_0 oX12_set (of3 _) rfl
theorem dX12_set_35 : decode cX12_set 35 = .ok (.istore_n 3, 1) := dec_0 oX12_set (of62 _) rfl
theorem dX12_set_36 : decode cX12_set 36 = .ok (.iload_n 1, 1) := dec_0 oX12_set (of27 _) rfl
theorem dX12_set_37 : decode cX12_set 37 = .ok (.ifCond .ne 8, 3) := dec_s2 oX12_set (of154 _) 0 8 rfl (sg16p rfl) rfl
theorem dX12_set_40 : decode cX12_set 40 = .ok (.bipush 15, 2) := dec_s1 oX12_set (of16 _) 15 rfl (sg8p rfl) rfl
theorem dX12_set_42 : decode cX12_set 42 = .ok (.goto 23, 3) := dec_s2 oX12_set (of167 _) 0 23 rfl (sg16p rfl) rfl
theorem dX12_set_45 : decode cX12_set 45 = .ok (.iload_n 1, 1) := dec_0 oX12_set (of27 _) rfl
theorem dX12_set_46 : decode cX12_set 46 = .ok (.iconst 1, 1) := dec_0 oX12_set (of4 _) rfl
theorem dX12_set_47 : decode cX12_set 47 = .ok (.if_icmp .ne 7, 3) := dec_s2 oX12_set (of160 _) 0 7 rfl (sg16p rfl) rfl
theorem dX12_set_50 : decode cX12_set 50 = .ok (.iconst 3, 1) := dec_0 oX12_set (of6 _) rfl
theorem dX12_set_51 : decode cX12_set 51 = .ok (.goto 14, 3) := dec_s2 oX12_set (of167 _) 0 14 rfl (sg16p rfl) rfl
theorem dX12_set_54 : decode cX12_set 54 = .ok (.iload_n 1, 1) := dec_0 oX12_set (of27 _) rfl
theorem dX12_set_55 : decode cX12_set 55 = .ok (.iconst 2, 1) := dec_0 oX12_set (of5 _) rfl
theorem dX12_set_56 : decode cX12_set 56 = .ok (.if_icmp .ne 7, 3) := dec_s2 oX12_set (of160 _) 0 7 rfl (sg16p rfl) rfl
theorem dX12_set_59 : decode cX12_set 59 = .ok (.iconst 1, 1) := dec_0 oX12_set (of4 _) rfl
theorem dX12_set_6 : decode cX12_set 6 = .ok (.ifCond .eq 17, 3) := dec_s2 oX12_set (of153 _) 0 17 rfl (sg16p rfl) rfl
theorem dX12_set_60 : decode cX12_set 60 = .ok (.goto 5, 3) := dec_s2 oX12_set (of167 _) 0 5 rfl (sg16p rfl) rfl
theorem dX12_set_63 : decode cX12_set 63 = .ok (.bipush 99, 2) := dec_s1 oX12_set (of16 _) 99 rfl (sg8p rfl) rfl
theorem dX12_set_65 : decode cX12_set 65 = .ok (.istore 4, 2) := dec_1 oX12_set (of54 _) 4 rfl rfl
theorem dX12_set_67 : decode cX12_set 67 = .ok (.iload_n 2, 1) := dec_0 oX12_set (of28 _) rfl
theorem dX12_set_68 : decode cX12_set 68 = .ok (.iload_n 3, 1) := dec_0 oX12_set (of29 _) rfl
theorem dX12_set_69 : decode cX12_set 69 = .ok (.iload 4, 2) := dec_1 oX12_set (of21 _) 4 rfl rfl
theorem dX12_set_71 : decode cX12_set 71 = .ok (.invokestatic 244, 3) := dec_2 oX12_set (of184 _) 0 244 rfl rfl
theorem dX12_set_74 : decode cX12_set 74 = .ok (.ifCond .ne 5, 3) := dec_s2 oX12_set (of154 _) 0 5 rfl (sg16p rfl) rfl
theorem dX12_set_77 : decode cX12_set 77 = .ok (.iconst 0, 1) := dec_0 oX12_set (of3 _) rfl
theorem dX12_set_78 : decode cX12_set 78 = .ok (.ireturn, 1) := dec_0 oX12_set (of172 _) rfl
theorem dX12_set_79 : decode cX12_set 79 = .ok (.aload_n 0, 1) := dec_0 oX12_set (of42 _) rfl
theorem dX12_set_80 : decode cX12_set 80 = .ok (.invokevirtual 323, 3) := dec_2 oX12_set (of182 _) 1 67 rfl rfl
theorem dX12_set_83 : decode cX12_set 83 = .ok (.aload_n 0, 1) := dec_0 oX12_set (of42 _) rfl
theorem dX12_set_84 : decode cX12_set 84 = .ok (.getfield 73, 3) := dec_2 oX12_set (of180 _) 0 73 rfl rfl
theorem dX12_set_87 : decode cX12_set 87 = .ok (.sipush 161, 3) := dec_s2 oX12_set (of17 _) 0 161 rfl (sg16p rfl) rfl
theorem dX12_set_9 : decode cX12_set 9 = .ok (.aload_n 0, 1) := dec_0 oX12_set (of42 _) rfl
theorem dX12_set_90 : decode cX12_set 90 = .ok (.iload_n 1, 1) := dec_0 oX12_set (of27 _) rfl
theorem dX12_set_91 : decode cX12_set 91 = .ok (.iadd, 1) := dec_0 oX12_set (of96 _) rfl
theorem dX12_set_92 : decode cX12_set 92 = .ok (.iload_n 2, 1) := dec_0 oX12_set (of28 _) rfl
theorem dX12_set_93 : decode cX12_set 93 = .ok (.iastore, 1) := dec_0 oX12_set (of79 _) rfl
theorem dX12_set_94 : decode cX12_set 94 = .ok (.aload_n 0, 1) := dec_0 oX12_set (of42 _) rfl
theorem dX12_set_95 : decode cX12_set 95 = .ok (.invokevirtual 326, 3) := dec_2 oX12_set (of182 _) 1 70 rfl rfl
theorem dX12_set_98 : decode cX12_set 98 = .ok (.iconst 1, 1) := dec_0 oX12_set (of4 _) rfl
theorem dX12_set_99 : decode cX12_set 99 = .ok (.ireturn, 1) := dec_0 oX12_set (of172 _) rfl
theorem dX12_slack_0 : decode cX12_slack 0 = .ok (.aload_n 0, 1) := dec_0 oX12_slack (of42 _) rfl
theorem dX12_slack_1 : decode cX12_slack 1 = .ok (.iload_n 1, 1) := dec_0 oX12_slack (of27 _) rfl
theorem dX12_slack_2 : decode cX12_slack 2 = .ok (.invokevirtual 251, 3) := dec_2 oX12_slack (of182 _) 0 251 rfl rfl
theorem dX12_slack_5 : decode cX12_slack 5 = .ok (.ifCond .ne 5, 3) := dec_s2 oX12_slack (of154 _) 0 5 rfl (sg16p rfl) rfl
theorem dX12_slack_8 : decode cX12_slack 8 = .ok (.iconst (-1), 1) := dec_0 oX12_slack (of2 _) rfl
theorem dX12_slack_9 : decode cX12_slack 9 = .ok (.ireturn, 1) := dec_0 oX12_slack (of172 _) rfl
theorem dX12_token_0 : decode cX12_token 0 = .ok (.aload_n 0, 1) := dec_0 oX12_token (of42 _) rfl
theorem dX12_token_1 : decode cX12_token 1 = .ok (.getfield 20, 3) := dec_2 oX12_token (of180 _) 0 20 rfl rfl
theorem dX12_token_10 : decode cX12_token 10 = .ok (.aload_n 0, 1) := dec_0 oX12_token (of42 _) rfl
theorem dX12_token_11 : decode cX12_token 11 = .ok (.getfield 24, 3) := dec_2 oX12_token (of180 _) 0 24 rfl rfl
theorem dX12_token_14 : decode cX12_token 14 = .ok (.aload_n 0, 1) := dec_0 oX12_token (of42 _) rfl
theorem dX12_token_15 : decode cX12_token 15 = .ok (.getfield 139, 3) := dec_2 oX12_token (of180 _) 0 139 rfl rfl
theorem dX12_token_18 : decode cX12_token 18 = .ok (.iload_n 2, 1) := dec_0 oX12_token (of28 _) rfl
theorem dX12_token_19 : decode cX12_token 19 = .ok (.iastore, 1) := dec_0 oX12_token (of79 _) rfl
theorem dX12_token_20 : decode cX12_token 20 = .ok (.aload_n 0, 1) := dec_0 oX12_token (of42 _) rfl
theorem dX12_token_21 : decode cX12_token 21 = .ok (.getfield 27, 3) := dec_2 oX12_token (of180 _) 0 27 rfl rfl
theorem dX12_token_24 : decode cX12_token 24 = .ok (.aload_n 0, 1) := dec_0 oX12_token (of42 _) rfl
theorem dX12_token_25 : decode cX12_token 25 = .ok (.getfield 139, 3) := dec_2 oX12_token (of180 _) 0 139 rfl rfl
theorem dX12_token_28 : decode cX12_token 28 = .ok (.iload_n 3, 1) := dec_0 oX12_token (of29 _) rfl
theorem dX12_token_29 : decode cX12_token 29 = .ok (.iastore, 1) := dec_0 oX12_token (of79 _) rfl
theorem dX12_token_30 : decode cX12_token 30 = .ok (.aload_n 0, 1) := dec_0 oX12_token (of42 _) rfl
theorem dX12_token_31 : decode cX12_token 31 = .ok (.getfield 30, 3) := dec_2 oX12_token (of180 _) 0 30 rfl rfl
theorem dX12_token_34 : decode cX12_token 34 = .ok (.aload_n 0, 1) := dec_0 oX12_token (of42 _) rfl
theorem dX12_token_35 : decode cX12_token 35 = .ok (.getfield 139, 3) := dec_2 oX12_token (of180 _) 0 139 rfl rfl
theorem dX12_token_38 : decode cX12_token 38 = .ok (.lload 4, 2) := dec_1 oX12_token (of22 _) 4 rfl rfl
theorem dX12_token_4 : decode cX12_token 4 = .ok (.aload_n 0, 1) := dec_0 oX12_token (of42 _) rfl
theorem dX12_token_40 : decode cX12_token 40 = .ok (.lastore, 1) := dec_0 oX12_token (of80 _) rfl
theorem dX12_token_41 : decode cX12_token 41 = .ok (.aload_n 0, 1) := dec_0 oX12_token (of42 _) rfl
theorem dX12_token_42 : decode cX12_token 42 = .ok (.dup, 1) := dec_0 oX12_token (of89 _) rfl
theorem dX12_token_43 : decode cX12_token 43 = .ok (.getfield 139, 3) := dec_2 oX12_token (of180 _) 0 139 rfl rfl
theorem dX12_token_46 : decode cX12_token 46 = .ok (.iconst 1, 1) := dec_0 oX12_token (of4 _) rfl
theorem dX12_token_47 : decode cX12_token 47 = .ok (.iadd, 1) := dec_0 oX12_token (of96 _) rfl
theorem dX12_token_48 : decode cX12_token 48 = .ok (.putfield 139, 3) := dec_2 oX12_token (of181 _) 0 139 rfl rfl
theorem dX12_token_5 : decode cX12_token 5 = .ok (.getfield 139, 3) := dec_2 oX12_token (of180 _) 0 139 rfl rfl
theorem dX12_token_51 : decode cX12_token 51 = .ok (.return_, 1) := dec_0 oX12_token (of177 _) rfl
theorem dX12_token_8 : decode cX12_token 8 = .ok (.iload_n 1, 1) := dec_0 oX12_token (of27 _) rfl
theorem dX12_token_9 : decode cX12_token 9 = .ok (.iastore, 1) := dec_0 oX12_token (of79 _) rfl
theorem dX12_turns_0 : decode cX12_turns 0 = .ok (.aload_n 0, 1) := dec_0 oX12_turns (of42 _) rfl
theorem dX12_turns_1 : decode cX12_turns 1 = .ok (.iload_n 1, 1) := dec_0 oX12_turns (of27 _) rfl
theorem dX12_turns_2 : decode cX12_turns 2 = .ok (.invokevirtual 251, 3) := dec_2 oX12_turns (of182 _) 0 251 rfl rfl
theorem dX12_turns_5 : decode cX12_turns 5 = .ok (.ifCond .ne 5, 3) := dec_s2 oX12_turns (of154 _) 0 5 rfl (sg16p rfl) rfl
theorem dX12_turns_8 : decode cX12_turns 8 = .ok (.iconst (-1), 1) := dec_0 oX12_turns (of2 _) rfl
theorem dX12_turns_9 : decode cX12_turns 9 = .ok (.ireturn, 1) := dec_0 oX12_turns (of172 _) rfl
theorem dX12_undo_0 : decode cX12_undo 0 = .ok (.aload_n 0, 1) := dec_0 oX12_undo (of42 _) rfl
theorem dX12_undo_1 : decode cX12_undo 1 = .ok (.getfield 209, 3) := dec_2 oX12_undo (of180 _) 0 209 rfl rfl
theorem dX12_undo_4 : decode cX12_undo 4 = .ok (.ifCond .ne 5, 3) := dec_s2 oX12_undo (of154 _) 0 5 rfl (sg16p rfl) rfl
theorem dX12_undo_7 : decode cX12_undo 7 = .ok (.iconst 0, 1) := dec_0 oX12_undo (of3 _) rfl
theorem dX12_undo_8 : decode cX12_undo 8 = .ok (.ireturn, 1) := dec_0 oX12_undo (of172 _) rfl
theorem dX12_way_0 : decode cX12_way 0 = .ok (.aload_n 0, 1) := dec_0 oX12_way (of42 _) rfl
theorem dX12_way_1 : decode cX12_way 1 = .ok (.iload_n 1, 1) := dec_0 oX12_way (of27 _) rfl
theorem dX12_way_14 : decode cX12_way 14 = .ok (.iconst (-1), 1) := dec_0 oX12_way (of2 _) rfl
theorem dX12_way_15 : decode cX12_way 15 = .ok (.ireturn, 1) := dec_0 oX12_way (of172 _) rfl
theorem dX12_way_2 : decode cX12_way 2 = .ok (.iload_n 2, 1) := dec_0 oX12_way (of28 _) rfl
theorem dX12_way_3 : decode cX12_way 3 = .ok (.invokevirtual 342, 3) := dec_2 oX12_way (of182 _) 1 86 rfl rfl
theorem dX12_way_6 : decode cX12_way 6 = .ok (.ifCond .eq 8, 3) := dec_s2 oX12_way (of153 _) 0 8 rfl (sg16p rfl) rfl
theorem dX12_whole_0 : decode cX12_whole 0 = .ok (.iload_n 1, 1) := dec_0 oX12_whole (of27 _) rfl
theorem dX12_whole_1 : decode cX12_whole 1 = .ok (.iconst 0, 1) := dec_0 oX12_whole (of3 _) rfl
theorem dX12_whole_10 : decode cX12_whole 10 = .ok (.ireturn, 1) := dec_0 oX12_whole (of172 _) rfl
theorem dX12_whole_11 : decode cX12_whole 11 = .ok (.bipush (-2), 2) := dec_s1 oX12_whole (of16 _) 254 rfl (sg8n (k := 2) rfl) rfl
theorem dX12_whole_13 : decode cX12_whole 13 = .ok (.istore_n 2, 1) := dec_0 oX12_whole (of61 _) rfl
theorem dX12_whole_14 : decode cX12_whole 14 = .ok (.bipush (-2), 2) := dec_s1 oX12_whole (of16 _) 254 rfl (sg8n (k := 2) rfl) rfl
theorem dX12_whole_16 : decode cX12_whole 16 = .ok (.istore_n 3, 1) := dec_0 oX12_whole (of62 _) rfl
theorem dX12_whole_17 : decode cX12_whole 17 = .ok (.iconst 0, 1) := dec_0 oX12_whole (of3 _) rfl
theorem dX12_whole_18 : decode cX12_whole 18 = .ok (.istore 4, 2) := dec_1 oX12_whole (of54 _) 4 rfl rfl
theorem dX12_whole_2 : decode cX12_whole 2 = .ok (.iconst 1, 1) := dec_0 oX12_whole (of4 _) rfl
theorem dX12_whole_20 : decode cX12_whole 20 = .ok (.iload 4, 2) := dec_1 oX12_whole (of21 _) 4 rfl rfl
theorem dX12_whole_22 : decode cX12_whole 22 = .ok (.aload_n 0, 1) := dec_0 oX12_whole (of42 _) rfl
theorem dX12_whole_23 : decode cX12_whole 23 = .ok (.getfield 70, 3) := dec_2 oX12_whole (of180 _) 0 70 rfl rfl
theorem dX12_whole_26 : decode cX12_whole 26 = .ok (.iconst 0, 1) := dec_0 oX12_whole (of3 _) rfl
theorem dX12_whole_27 : decode cX12_whole 27 = .ok (.iaload, 1) := dec_0 oX12_whole (of46 _) rfl
theorem dX12_whole_28 : decode cX12_whole 28 = .ok (.if_icmp .ge 50, 3) := dec_s2 oX12_whole (of162 _) 0 50 rfl (sg16p rfl) rfl
theorem dX12_whole_3 : decode cX12_whole 3 = .ok (.invokestatic 244, 3) := dec_2 oX12_whole (of184 _) 0 244 rfl rfl
theorem dX12_whole_6 : decode cX12_whole 6 = .ok (.ifCond .ne 5, 3) := dec_s2 oX12_whole (of154 _) 0 5 rfl (sg16p rfl) rfl
theorem dX12_whole_78 : decode cX12_whole 78 = .ok (.iload_n 1, 1) := dec_0 oX12_whole (of27 _) rfl
theorem dX12_whole_79 : decode cX12_whole 79 = .ok (.ifCond .ne 7, 3) := dec_s2 oX12_whole (of154 _) 0 7 rfl (sg16p rfl) rfl
theorem dX12_whole_82 : decode cX12_whole 82 = .ok (.iload_n 2, 1) := dec_0 oX12_whole (of28 _) rfl
theorem dX12_whole_83 : decode cX12_whole 83 = .ok (.goto 4, 3) := dec_s2 oX12_whole (of167 _) 0 4 rfl (sg16p rfl) rfl
theorem dX12_whole_86 : decode cX12_whole 86 = .ok (.iload_n 3, 1) := dec_0 oX12_whole (of29 _) rfl
theorem dX12_whole_87 : decode cX12_whole 87 = .ok (.ireturn, 1) := dec_0 oX12_whole (of172 _) rfl
theorem dX12_whole_9 : decode cX12_whole 9 = .ok (.iconst (-1), 1) := dec_0 oX12_whole (of2 _) rfl
theorem dX12_whose_0 : decode cX12_whose 0 = .ok (.iload_n 2, 1) := dec_0 oX12_whose (of28 _) rfl
theorem dX12_whose_1 : decode cX12_whose 1 = .ok (.iconst 2, 1) := dec_0 oX12_whose (of5 _) rfl
theorem dX12_whose_10 : decode cX12_whose 10 = .ok (.aload_n 0, 1) := dec_0 oX12_whose (of42 _) rfl
theorem dX12_whose_11 : decode cX12_whose 11 = .ok (.iload_n 1, 1) := dec_0 oX12_whose (of27 _) rfl
theorem dX12_whose_12 : decode cX12_whose 12 = .ok (.iload_n 2, 1) := dec_0 oX12_whose (of28 _) rfl
theorem dX12_whose_13 : decode cX12_whose 13 = .ok (.invokevirtual 257, 3) := dec_2 oX12_whose (of182 _) 1 1 rfl rfl
theorem dX12_whose_16 : decode cX12_whose 16 = .ok (.ifCond .ne 5, 3) := dec_s2 oX12_whose (of154 _) 0 5 rfl (sg16p rfl) rfl
theorem dX12_whose_19 : decode cX12_whose 19 = .ok (.iconst (-1), 1) := dec_0 oX12_whose (of2 _) rfl
theorem dX12_whose_2 : decode cX12_whose 2 = .ok (.bipush 16, 2) := dec_s1 oX12_whose (of16 _) 16 rfl (sg8p rfl) rfl
theorem dX12_whose_20 : decode cX12_whose 20 = .ok (.ireturn, 1) := dec_0 oX12_whose (of172 _) rfl
theorem dX12_whose_4 : decode cX12_whose 4 = .ok (.invokestatic 244, 3) := dec_2 oX12_whose (of184 _) 0 244 rfl rfl
theorem dX12_whose_7 : decode cX12_whose 7 = .ok (.ifCond .eq 12, 3) := dec_s2 oX12_whose (of153 _) 0 12 rfl (sg16p rfl) rfl
theorem dX12_window_0 : decode cX12_window 0 = .ok (.aload_n 0, 1) := dec_0 oX12_window (of42 _) rfl
theorem dX12_window_1 : decode cX12_window 1 = .ok (.iload_n 1, 1) := dec_0 oX12_window (of27 _) rfl
theorem dX12_window_12 : decode cX12_window 12 = .ok (.ireturn, 1) := dec_0 oX12_window (of172 _) rfl
theorem dX12_window_2 : decode cX12_window 2 = .ok (.iload_n 2, 1) := dec_0 oX12_window (of28 _) rfl
theorem dX12_window_3 : decode cX12_window 3 = .ok (.invokevirtual 257, 3) := dec_2 oX12_window (of182 _) 1 1 rfl rfl
theorem dX12_window_6 : decode cX12_window 6 = .ok (.ifCond .ne 7, 3) := dec_s2 oX12_window (of154 _) 0 7 rfl (sg16p rfl) rfl
theorem dX12_window_9 : decode cX12_window 9 = .ok (.ldc_w 332, 3) := dec_2 oX12_window (of19 _) 1 76 rfl rfl
theorem dX12_within_0 : decode cX12_within 0 = .ok (.aload_n 0, 1) := dec_0 oX12_within (of42 _) rfl
theorem dX12_within_1 : decode cX12_within 1 = .ok (.iload_n 1, 1) := dec_0 oX12_within (of27 _) rfl
theorem dX12_within_12 : decode cX12_within 12 = .ok (.iconst (-1), 1) := dec_0 oX12_within (of2 _) rfl
theorem dX12_within_13 : decode cX12_within 13 = .ok (.ireturn, 1) := dec_0 oX12_within (of172 _) rfl
theorem dX12_within_2 : decode cX12_within 2 = .ok (.invokevirtual 251, 3) := dec_2 oX12_within (of182 _) 0 251 rfl rfl
theorem dX12_within_5 : decode cX12_within 5 = .ok (.ifCond .eq 7, 3) := dec_s2 oX12_within (of153 _) 0 7 rfl (sg16p rfl) rfl
theorem dX1_firedBits_0 : decode cX1_firedBits 0 = .ok (.iconst 0, 1) := dec_0 oX1_firedBits (of3 _) rfl
theorem dX1_firedBits_1 : decode cX1_firedBits 1 = .ok (.istore_n 2, 1) := dec_0 oX1_firedBits (of61 _) rfl
theorem dX1_firedBits_12 : decode cX1_firedBits 12 = .ok (.if_icmp .ge 60, 3) := dec_s2 oX1_firedBits (of162 _) 0 60 rfl (sg16p rfl) rfl
theorem dX1_firedBits_2 : decode cX1_firedBits 2 = .ok (.iconst 0, 1) := dec_0 oX1_firedBits (of3 _) rfl
theorem dX1_firedBits_3 : decode cX1_firedBits 3 = .ok (.istore_n 3, 1) := dec_0 oX1_firedBits (of62 _) rfl
theorem dX1_firedBits_4 : decode cX1_firedBits 4 = .ok (.iload_n 3, 1) := dec_0 oX1_firedBits (of29 _) rfl
theorem dX1_firedBits_5 : decode cX1_firedBits 5 = .ok (.aload_n 0, 1) := dec_0 oX1_firedBits (of42 _) rfl
theorem dX1_firedBits_6 : decode cX1_firedBits 6 = .ok (.getfield 43, 3) := dec_2 oX1_firedBits (of180 _) 0 43 rfl rfl
theorem dX1_firedBits_72 : decode cX1_firedBits 72 = .ok (.iload_n 2, 1) := dec_0 oX1_firedBits (of28 _) rfl
theorem dX1_firedBits_73 : decode cX1_firedBits 73 = .ok (.ireturn, 1) := dec_0 oX1_firedBits (of172 _) rfl
theorem dX1_firedBits_9 : decode cX1_firedBits 9 = .ok (.getfield 161, 3) := dec_2 oX1_firedBits (of180 _) 0 161 rfl rfl
theorem dX1_init_0 : decode cX1_init 0 = .ok (.aload_n 0, 1) := dec_0 oX1_init (of42 _) rfl
theorem dX1_init_1 : decode cX1_init 1 = .ok (.invokespecial 3, 3) := dec_2 oX1_init (of183 _) 0 3 rfl rfl
theorem dX1_init_12 : decode cX1_init 12 = .ok (.aload_n 0, 1) := dec_0 oX1_init (of42 _) rfl
theorem dX1_init_13 : decode cX1_init 13 = .ok (.sipush 160, 3) := dec_s2 oX1_init (of17 _) 0 160 rfl (sg16p rfl) rfl
theorem dX1_init_16 : decode cX1_init 16 = .ok (.newarray .int, 2) := by decide +kernel
theorem dX1_init_18 : decode cX1_init 18 = .ok (.putfield 15, 3) := dec_2 oX1_init (of181 _) 0 15 rfl rfl
theorem dX1_init_21 : decode cX1_init 21 = .ok (.aload_n 0, 1) := dec_0 oX1_init (of42 _) rfl
theorem dX1_init_22 : decode cX1_init 22 = .ok (.sipush 160, 3) := dec_s2 oX1_init (of17 _) 0 160 rfl (sg16p rfl) rfl
theorem dX1_init_25 : decode cX1_init 25 = .ok (.newarray .int, 2) := by decide +kernel
theorem dX1_init_27 : decode cX1_init 27 = .ok (.putfield 18, 3) := dec_2 oX1_init (of181 _) 0 18 rfl rfl
theorem dX1_init_30 : decode cX1_init 30 = .ok (.aload_n 0, 1) := dec_0 oX1_init (of42 _) rfl
theorem dX1_init_31 : decode cX1_init 31 = .ok (.sipush 160, 3) := dec_s2 oX1_init (of17 _) 0 160 rfl (sg16p rfl) rfl
theorem dX1_init_34 : decode cX1_init 34 = .ok (.newarray .int, 2) := by decide +kernel
theorem dX1_init_36 : decode cX1_init 36 = .ok (.putfield 21, 3) := dec_2 oX1_init (of181 _) 0 21 rfl rfl
theorem dX1_init_39 : decode cX1_init 39 = .ok (.aload_n 0, 1) := dec_0 oX1_init (of42 _) rfl
theorem dX1_init_4 : decode cX1_init 4 = .ok (.aload_n 0, 1) := dec_0 oX1_init (of42 _) rfl
theorem dX1_init_40 : decode cX1_init 40 = .ok (.sipush 160, 3) := dec_s2 oX1_init (of17 _) 0 160 rfl (sg16p rfl) rfl
theorem dX1_init_43 : decode cX1_init 43 = .ok (.newarray .boolean, 2) := by decide +kernel
theorem dX1_init_45 : decode cX1_init 45 = .ok (.putfield 24, 3) := dec_2 oX1_init (of181 _) 0 24 rfl rfl
theorem dX1_init_48 : decode cX1_init 48 = .ok (.aload_n 0, 1) := dec_0 oX1_init (of42 _) rfl
theorem dX1_init_49 : decode cX1_init 49 = .ok (.aload_n 1, 1) := dec_0 oX1_init (of43 _) rfl
theorem dX1_init_5 : decode cX1_init 5 = .ok (.bipush 9, 2) := dec_s1 oX1_init (of16 _) 9 rfl (sg8p rfl) rfl
theorem dX1_init_50 : decode cX1_init 50 = .ok (.putfield 28, 3) := dec_2 oX1_init (of181 _) 0 28 rfl rfl
theorem dX1_init_53 : decode cX1_init 53 = .ok (.aload_n 0, 1) := dec_0 oX1_init (of42 _) rfl
theorem dX1_init_54 : decode cX1_init 54 = .ok (.aload_n 1, 1) := dec_0 oX1_init (of43 _) rfl
theorem dX1_init_55 : decode cX1_init 55 = .ok (.getfield 32, 3) := dec_2 oX1_init (of180 _) 0 32 rfl rfl
theorem dX1_init_58 : decode cX1_init 58 = .ok (.putfield 38, 3) := dec_2 oX1_init (of181 _) 0 38 rfl rfl
theorem dX1_init_61 : decode cX1_init 61 = .ok (.aload_n 0, 1) := dec_0 oX1_init (of42 _) rfl
theorem dX1_init_62 : decode cX1_init 62 = .ok (.aload_n 1, 1) := dec_0 oX1_init (of43 _) rfl
theorem dX1_init_63 : decode cX1_init 63 = .ok (.getfield 39, 3) := dec_2 oX1_init (of180 _) 0 39 rfl rfl
theorem dX1_init_66 : decode cX1_init 66 = .ok (.putfield 43, 3) := dec_2 oX1_init (of181 _) 0 43 rfl rfl
theorem dX1_init_69 : decode cX1_init 69 = .ok (.return_, 1) := dec_0 oX1_init (of177 _) rfl
theorem dX1_init_7 : decode cX1_init 7 = .ok (.newarray .int, 2) := by decide +kernel
theorem dX1_init_9 : decode cX1_init 9 = .ok (.putfield 11, 3) := dec_2 oX1_init (of181 _) 0 11 rfl rfl
theorem dX2_init_0 : decode cX2_init 0 = .ok (.aload_n 0, 1) := dec_0 oX2_init (of42 _) rfl
theorem dX2_init_1 : decode cX2_init 1 = .ok (.invokespecial 3, 3) := dec_2 oX2_init (of183 _) 0 3 rfl rfl
theorem dX2_init_12 : decode cX2_init 12 = .ok (.aload_n 0, 1) := dec_0 oX2_init (of42 _) rfl
theorem dX2_init_13 : decode cX2_init 13 = .ok (.bipush 16, 2) := dec_s1 oX2_init (of16 _) 16 rfl (sg8p rfl) rfl
theorem dX2_init_15 : decode cX2_init 15 = .ok (.newarray .int, 2) := by decide +kernel
theorem dX2_init_17 : decode cX2_init 17 = .ok (.putfield 15, 3) := dec_2 oX2_init (of181 _) 0 15 rfl rfl
theorem dX2_init_20 : decode cX2_init 20 = .ok (.aload_n 0, 1) := dec_0 oX2_init (of42 _) rfl
theorem dX2_init_21 : decode cX2_init 21 = .ok (.sipush 256, 3) := dec_s2 oX2_init (of17 _) 1 0 rfl (sg16p rfl) rfl
theorem dX2_init_24 : decode cX2_init 24 = .ok (.newarray .int, 2) := by decide +kernel
theorem dX2_init_26 : decode cX2_init 26 = .ok (.putfield 18, 3) := dec_2 oX2_init (of181 _) 0 18 rfl rfl
theorem dX2_init_29 : decode cX2_init 29 = .ok (.aload_n 0, 1) := dec_0 oX2_init (of42 _) rfl
theorem dX2_init_30 : decode cX2_init 30 = .ok (.bipush 32, 2) := dec_s1 oX2_init (of16 _) 32 rfl (sg8p rfl) rfl
theorem dX2_init_32 : decode cX2_init 32 = .ok (.newarray .int, 2) := by decide +kernel
theorem dX2_init_34 : decode cX2_init 34 = .ok (.putfield 21, 3) := dec_2 oX2_init (of181 _) 0 21 rfl rfl
theorem dX2_init_37 : decode cX2_init 37 = .ok (.aload_n 0, 1) := dec_0 oX2_init (of42 _) rfl
theorem dX2_init_38 : decode cX2_init 38 = .ok (.iconst 1, 1) := dec_0 oX2_init (of4 _) rfl
theorem dX2_init_39 : decode cX2_init 39 = .ok (.putfield 24, 3) := dec_2 oX2_init (of181 _) 0 24 rfl rfl
theorem dX2_init_4 : decode cX2_init 4 = .ok (.aload_n 0, 1) := dec_0 oX2_init (of42 _) rfl
theorem dX2_init_42 : decode cX2_init 42 = .ok (.return_, 1) := dec_0 oX2_init (of177 _) rfl
theorem dX2_init_5 : decode cX2_init 5 = .ok (.bipush 16, 2) := dec_s1 oX2_init (of16 _) 16 rfl (sg8p rfl) rfl
theorem dX2_init_7 : decode cX2_init 7 = .ok (.newarray .int, 2) := by decide +kernel
theorem dX2_init_9 : decode cX2_init 9 = .ok (.putfield 9, 3) := dec_2 oX2_init (of181 _) 0 9 rfl rfl
theorem dX3_forget_0 : decode cX3_forget 0 = .ok (.aload_n 0, 1) := dec_0 oX3_forget (of42 _) rfl
theorem dX3_forget_1 : decode cX3_forget 1 = .ok (.iconst 0, 1) := dec_0 oX3_forget (of3 _) rfl
theorem dX3_forget_2 : decode cX3_forget 2 = .ok (.putfield 19, 3) := dec_2 oX3_forget (of181 _) 0 19 rfl rfl
theorem dX3_forget_5 : decode cX3_forget 5 = .ok (.return_, 1) := dec_0 oX3_forget (of177 _) rfl
theorem dX3_init_0 : decode cX3_init 0 = .ok (.aload_n 0, 1) := dec_0 oX3_init (of42 _) rfl
theorem dX3_init_1 : decode cX3_init 1 = .ok (.invokespecial 1, 3) := dec_2 oX3_init (of183 _) 0 1 rfl rfl
theorem dX3_init_12 : decode cX3_init 12 = .ok (.aload_n 0, 1) := dec_0 oX3_init (of42 _) rfl
theorem dX3_init_13 : decode cX3_init 13 = .ok (.bipush 40, 2) := dec_s1 oX3_init (of16 _) 40 rfl (sg8p rfl) rfl
theorem dX3_init_15 : decode cX3_init 15 = .ok (.newarray .int, 2) := by decide +kernel
theorem dX3_init_17 : decode cX3_init 17 = .ok (.putfield 13, 3) := dec_2 oX3_init (of181 _) 0 13 rfl rfl
theorem dX3_init_20 : decode cX3_init 20 = .ok (.aload_n 0, 1) := dec_0 oX3_init (of42 _) rfl
theorem dX3_init_21 : decode cX3_init 21 = .ok (.bipush 40, 2) := dec_s1 oX3_init (of16 _) 40 rfl (sg8p rfl) rfl
theorem dX3_init_23 : decode cX3_init 23 = .ok (.newarray .int, 2) := by decide +kernel
theorem dX3_init_25 : decode cX3_init 25 = .ok (.putfield 16, 3) := dec_2 oX3_init (of181 _) 0 16 rfl rfl
theorem dX3_init_28 : decode cX3_init 28 = .ok (.return_, 1) := dec_0 oX3_init (of177 _) rfl
theorem dX3_init_4 : decode cX3_init 4 = .ok (.aload_n 0, 1) := dec_0 oX3_init (of42 _) rfl
theorem dX3_init_5 : decode cX3_init 5 = .ok (.bipush 40, 2) := dec_s1 oX3_init (of16 _) 40 rfl (sg8p rfl) rfl
theorem dX3_init_7 : decode cX3_init 7 = .ok (.newarray .int, 2) := by decide +kernel
theorem dX3_init_9 : decode cX3_init 9 = .ok (.putfield 9, 3) := dec_2 oX3_init (of181 _) 0 9 rfl rfl
theorem dX3_note_0 : decode cX3_note 0 = .ok (.aload_n 0, 1) := dec_0 oX3_note (of42 _) rfl
theorem dX3_note_1 : decode cX3_note 1 = .ok (.getfield 23, 3) := dec_2 oX3_note (of180 _) 0 23 rfl rfl
theorem dX3_note_11 : decode cX3_note 11 = .ok (.bipush 40, 2) := dec_s1 oX3_note (of16 _) 40 rfl (sg8p rfl) rfl
theorem dX3_note_13 : decode cX3_note 13 = .ok (.if_icmp .lt 4, 3) := dec_s2 oX3_note (of161 _) 0 4 rfl (sg16p rfl) rfl
theorem dX3_note_17 : decode cX3_note 17 = .ok (.aload_n 0, 1) := dec_0 oX3_note (of42 _) rfl
theorem dX3_note_18 : decode cX3_note 18 = .ok (.getfield 9, 3) := dec_2 oX3_note (of180 _) 0 9 rfl rfl
theorem dX3_note_21 : decode cX3_note 21 = .ok (.aload_n 0, 1) := dec_0 oX3_note (of42 _) rfl
theorem dX3_note_22 : decode cX3_note 22 = .ok (.getfield 23, 3) := dec_2 oX3_note (of180 _) 0 23 rfl rfl
theorem dX3_note_25 : decode cX3_note 25 = .ok (.iload_n 1, 1) := dec_0 oX3_note (of27 _) rfl
theorem dX3_note_26 : decode cX3_note 26 = .ok (.iastore, 1) := dec_0 oX3_note (of79 _) rfl
theorem dX3_note_27 : decode cX3_note 27 = .ok (.aload_n 0, 1) := dec_0 oX3_note (of42 _) rfl
theorem dX3_note_28 : decode cX3_note 28 = .ok (.getfield 13, 3) := dec_2 oX3_note (of180 _) 0 13 rfl rfl
theorem dX3_note_31 : decode cX3_note 31 = .ok (.aload_n 0, 1) := dec_0 oX3_note (of42 _) rfl
theorem dX3_note_32 : decode cX3_note 32 = .ok (.getfield 23, 3) := dec_2 oX3_note (of180 _) 0 23 rfl rfl
theorem dX3_note_35 : decode cX3_note 35 = .ok (.iload_n 2, 1) := dec_0 oX3_note (of28 _) rfl
theorem dX3_note_36 : decode cX3_note 36 = .ok (.iastore, 1) := dec_0 oX3_note (of79 _) rfl
theorem dX3_note_37 : decode cX3_note 37 = .ok (.aload_n 0, 1) := dec_0 oX3_note (of42 _) rfl
theorem dX3_note_38 : decode cX3_note 38 = .ok (.getfield 16, 3) := dec_2 oX3_note (of180 _) 0 16 rfl rfl
theorem dX3_note_4 : decode cX3_note 4 = .ok (.ifCond .lt 12, 3) := dec_s2 oX3_note (of155 _) 0 12 rfl (sg16p rfl) rfl
theorem dX3_note_41 : decode cX3_note 41 = .ok (.aload_n 0, 1) := dec_0 oX3_note (of42 _) rfl
theorem dX3_note_42 : decode cX3_note 42 = .ok (.getfield 23, 3) := dec_2 oX3_note (of180 _) 0 23 rfl rfl
theorem dX3_note_45 : decode cX3_note 45 = .ok (.iload_n 3, 1) := dec_0 oX3_note (of29 _) rfl
theorem dX3_note_46 : decode cX3_note 46 = .ok (.iastore, 1) := dec_0 oX3_note (of79 _) rfl
theorem dX3_note_47 : decode cX3_note 47 = .ok (.aload_n 0, 1) := dec_0 oX3_note (of42 _) rfl
theorem dX3_note_48 : decode cX3_note 48 = .ok (.aload_n 0, 1) := dec_0 oX3_note (of42 _) rfl
theorem dX3_note_49 : decode cX3_note 49 = .ok (.getfield 23, 3) := dec_2 oX3_note (of180 _) 0 23 rfl rfl
theorem dX3_note_52 : decode cX3_note 52 = .ok (.bipush 39, 2) := dec_s1 oX3_note (of16 _) 39 rfl (sg8p rfl) rfl
theorem dX3_note_54 : decode cX3_note 54 = .ok (.if_icmp .ne 7, 3) := dec_s2 oX3_note (of160 _) 0 7 rfl (sg16p rfl) rfl
theorem dX3_note_61 : decode cX3_note 61 = .ok (.aload_n 0, 1) := dec_0 oX3_note (of42 _) rfl
theorem dX3_note_62 : decode cX3_note 62 = .ok (.getfield 23, 3) := dec_2 oX3_note (of180 _) 0 23 rfl rfl
theorem dX3_note_65 : decode cX3_note 65 = .ok (.iconst 1, 1) := dec_0 oX3_note (of4 _) rfl
theorem dX3_note_66 : decode cX3_note 66 = .ok (.iadd, 1) := dec_0 oX3_note (of96 _) rfl
theorem dX3_note_67 : decode cX3_note 67 = .ok (.putfield 23, 3) := dec_2 oX3_note (of181 _) 0 23 rfl rfl
theorem dX3_note_7 : decode cX3_note 7 = .ok (.aload_n 0, 1) := dec_0 oX3_note (of42 _) rfl
theorem dX3_note_70 : decode cX3_note 70 = .ok (.aload_n 0, 1) := dec_0 oX3_note (of42 _) rfl
theorem dX3_note_71 : decode cX3_note 71 = .ok (.aload_n 0, 1) := dec_0 oX3_note (of42 _) rfl
theorem dX3_note_72 : decode cX3_note 72 = .ok (.getfield 19, 3) := dec_2 oX3_note (of180 _) 0 19 rfl rfl
theorem dX3_note_75 : decode cX3_note 75 = .ok (.iconst 1, 1) := dec_0 oX3_note (of4 _) rfl
theorem dX3_note_76 : decode cX3_note 76 = .ok (.iadd, 1) := dec_0 oX3_note (of96 _) rfl
theorem dX3_note_77 : decode cX3_note 77 = .ok (.bipush 40, 2) := dec_s1 oX3_note (of16 _) 40 rfl (sg8p rfl) rfl
theorem dX3_note_79 : decode cX3_note 79 = .ok (.invokestatic 26, 3) := dec_2 oX3_note (of184 _) 0 26 rfl rfl
theorem dX3_note_8 : decode cX3_note 8 = .ok (.getfield 23, 3) := dec_2 oX3_note (of180 _) 0 23 rfl rfl
theorem dX3_note_82 : decode cX3_note 82 = .ok (.putfield 19, 3) := dec_2 oX3_note (of181 _) 0 19 rfl rfl
theorem dX3_note_85 : decode cX3_note 85 = .ok (.return_, 1) := dec_0 oX3_note (of177 _) rfl
theorem dX3_stepBack_0 : decode cX3_stepBack 0 = .ok (.aload_n 0, 1) := dec_0 oX3_stepBack (of42 _) rfl
theorem dX3_stepBack_1 : decode cX3_stepBack 1 = .ok (.getfield 19, 3) := dec_2 oX3_stepBack (of180 _) 0 19 rfl rfl
theorem dX3_stepBack_4 : decode cX3_stepBack 4 = .ok (.iconst 1, 1) := dec_0 oX3_stepBack (of4 _) rfl
theorem dX3_stepBack_5 : decode cX3_stepBack 5 = .ok (.if_icmp .ge 5, 3) := dec_s2 oX3_stepBack (of162 _) 0 5 rfl (sg16p rfl) rfl
theorem dX3_stepBack_8 : decode cX3_stepBack 8 = .ok (.iconst 0, 1) := dec_0 oX3_stepBack (of3 _) rfl
theorem dX3_stepBack_9 : decode cX3_stepBack 9 = .ok (.ireturn, 1) := dec_0 oX3_stepBack (of172 _) rfl
theorem dX4_has_0 : decode cX4_has 0 = .ok (.iload_n 1, 1) := dec_0 oX4_has (of27 _) rfl
theorem dX4_has_1 : decode cX4_has 1 = .ok (.ifCond .lt 20, 3) := dec_s2 oX4_has (of155 _) 0 20 rfl (sg16p rfl) rfl
theorem dX4_has_21 : decode cX4_has 21 = .ok (.iconst 0, 1) := dec_0 oX4_has (of3 _) rfl
theorem dX4_has_22 : decode cX4_has 22 = .ok (.ireturn, 1) := dec_0 oX4_has (of172 _) rfl
theorem dX4_has_4 : decode cX4_has 4 = .ok (.iload_n 1, 1) := dec_0 oX4_has (of27 _) rfl
theorem dX4_has_5 : decode cX4_has 5 = .ok (.aload_n 0, 1) := dec_0 oX4_has (of42 _) rfl
theorem dX4_has_6 : decode cX4_has 6 = .ok (.getfield 18, 3) := dec_2 oX4_has (of180 _) 0 18 rfl rfl
theorem dX4_has_9 : decode cX4_has 9 = .ok (.if_icmp .ge 12, 3) := dec_s2 oX4_has (of162 _) 0 12 rfl (sg16p rfl) rfl
theorem dX4_init_0 : decode cX4_init 0 = .ok (.aload_n 0, 1) := dec_0 oX4_init (of42 _) rfl
theorem dX4_init_1 : decode cX4_init 1 = .ok (.invokespecial 3, 3) := dec_2 oX4_init (of183 _) 0 3 rfl rfl
theorem dX4_init_12 : decode cX4_init 12 = .ok (.aload_n 0, 1) := dec_0 oX4_init (of42 _) rfl
theorem dX4_init_13 : decode cX4_init 13 = .ok (.iconst 5, 1) := dec_0 oX4_init (of8 _) rfl
theorem dX4_init_14 : decode cX4_init 14 = .ok (.newarray .int, 2) := by decide +kernel
theorem dX4_init_16 : decode cX4_init 16 = .ok (.putfield 15, 3) := dec_2 oX4_init (of181 _) 0 15 rfl rfl
theorem dX4_init_19 : decode cX4_init 19 = .ok (.return_, 1) := dec_0 oX4_init (of177 _) rfl
theorem dX4_init_4 : decode cX4_init 4 = .ok (.aload_n 0, 1) := dec_0 oX4_init (of42 _) rfl
theorem dX4_init_5 : decode cX4_init 5 = .ok (.bipush 80, 2) := dec_s1 oX4_init (of16 _) 80 rfl (sg8p rfl) rfl
theorem dX4_init_7 : decode cX4_init 7 = .ok (.newarray .int, 2) := by decide +kernel
theorem dX4_init_9 : decode cX4_init 9 = .ok (.putfield 9, 3) := dec_2 oX4_init (of181 _) 0 9 rfl rfl
theorem dX4_lengthOf_0 : decode cX4_lengthOf 0 = .ok (.aload_n 0, 1) := dec_0 oX4_lengthOf (of42 _) rfl
theorem dX4_lengthOf_1 : decode cX4_lengthOf 1 = .ok (.iload_n 1, 1) := dec_0 oX4_lengthOf (of27 _) rfl
theorem dX4_lengthOf_17 : decode cX4_lengthOf 17 = .ok (.iconst 0, 1) := dec_0 oX4_lengthOf (of3 _) rfl
theorem dX4_lengthOf_18 : decode cX4_lengthOf 18 = .ok (.ireturn, 1) := dec_0 oX4_lengthOf (of172 _) rfl
theorem dX4_lengthOf_2 : decode cX4_lengthOf 2 = .ok (.invokevirtual 22, 3) := dec_2 oX4_lengthOf (of182 _) 0 22 rfl rfl
theorem dX4_lengthOf_5 : decode cX4_lengthOf 5 = .ok (.ifCond .eq 12, 3) := dec_s2 oX4_lengthOf (of153 _) 0 12 rfl (sg16p rfl) rfl
theorem dX4_takeFrom_0 : decode cX4_takeFrom 0 = .ok (.aload_n 0, 1) := dec_0 oX4_takeFrom (of42 _) rfl
theorem dX4_takeFrom_1 : decode cX4_takeFrom 1 = .ok (.iconst 0, 1) := dec_0 oX4_takeFrom (of3 _) rfl
theorem dX4_takeFrom_12 : decode cX4_takeFrom 12 = .ok (.if_icmp .ge 40, 3) := dec_s2 oX4_takeFrom (of162 _) 0 40 rfl (sg16p rfl) rfl
theorem dX4_takeFrom_2 : decode cX4_takeFrom 2 = .ok (.putfield 18, 3) := dec_2 oX4_takeFrom (of181 _) 0 18 rfl rfl
theorem dX4_takeFrom_5 : decode cX4_takeFrom 5 = .ok (.iconst 0, 1) := dec_0 oX4_takeFrom (of3 _) rfl
theorem dX4_takeFrom_52 : decode cX4_takeFrom 52 = .ok (.return_, 1) := dec_0 oX4_takeFrom (of177 _) rfl
theorem dX4_takeFrom_6 : decode cX4_takeFrom 6 = .ok (.istore_n 2, 1) := dec_0 oX4_takeFrom (of61 _) rfl
theorem dX4_takeFrom_7 : decode cX4_takeFrom 7 = .ok (.iload_n 2, 1) := dec_0 oX4_takeFrom (of28 _) rfl
theorem dX4_takeFrom_8 : decode cX4_takeFrom 8 = .ok (.aload_n 1, 1) := dec_0 oX4_takeFrom (of43 _) rfl
theorem dX4_takeFrom_9 : decode cX4_takeFrom 9 = .ok (.getfield 18, 3) := dec_2 oX4_takeFrom (of180 _) 0 18 rfl rfl
theorem dX4_valueAt_0 : decode cX4_valueAt 0 = .ok (.iload_n 2, 1) := dec_0 oX4_valueAt (of28 _) rfl
theorem dX4_valueAt_1 : decode cX4_valueAt 1 = .ok (.ifCond .lt 32, 3) := dec_s2 oX4_valueAt (of155 _) 0 32 rfl (sg16p rfl) rfl
theorem dX4_valueAt_10 : decode cX4_valueAt 10 = .ok (.iload_n 2, 1) := dec_0 oX4_valueAt (of28 _) rfl
theorem dX4_valueAt_11 : decode cX4_valueAt 11 = .ok (.aload_n 0, 1) := dec_0 oX4_valueAt (of42 _) rfl
theorem dX4_valueAt_12 : decode cX4_valueAt 12 = .ok (.iload_n 1, 1) := dec_0 oX4_valueAt (of27 _) rfl
theorem dX4_valueAt_13 : decode cX4_valueAt 13 = .ok (.invokevirtual 26, 3) := dec_2 oX4_valueAt (of182 _) 0 26 rfl rfl
theorem dX4_valueAt_16 : decode cX4_valueAt 16 = .ok (.if_icmp .ge 17, 3) := dec_s2 oX4_valueAt (of162 _) 0 17 rfl (sg16p rfl) rfl
theorem dX4_valueAt_33 : decode cX4_valueAt 33 = .ok (.sipush (-1000), 3) := dec_s2 oX4_valueAt (of17 _) 252 24 rfl (sg16n (k := 1000) rfl) rfl
theorem dX4_valueAt_36 : decode cX4_valueAt 36 = .ok (.ireturn, 1) := dec_0 oX4_valueAt (of172 _) rfl
theorem dX4_valueAt_4 : decode cX4_valueAt 4 = .ok (.iload_n 2, 1) := dec_0 oX4_valueAt (of28 _) rfl
theorem dX4_valueAt_5 : decode cX4_valueAt 5 = .ok (.bipush 16, 2) := dec_s1 oX4_valueAt (of16 _) 16 rfl (sg8p rfl) rfl
theorem dX4_valueAt_7 : decode cX4_valueAt 7 = .ok (.if_icmp .ge 26, 3) := dec_s2 oX4_valueAt (of162 _) 0 26 rfl (sg16p rfl) rfl
theorem dX5_begin_0 : decode cX5_begin 0 = .ok (.aload_n 0, 1) := dec_0 oX5_begin (of42 _) rfl
theorem dX5_begin_1 : decode cX5_begin 1 = .ok (.getfield 12, 3) := dec_2 oX5_begin (of180 _) 0 12 rfl rfl
theorem dX5_begin_11 : decode cX5_begin 11 = .ok (.iconst 0, 1) := dec_0 oX5_begin (of3 _) rfl
theorem dX5_begin_12 : decode cX5_begin 12 = .ok (.putfield 84, 3) := dec_2 oX5_begin (of181 _) 0 84 rfl rfl
theorem dX5_begin_15 : decode cX5_begin 15 = .ok (.aload_n 0, 1) := dec_0 oX5_begin (of42 _) rfl
theorem dX5_begin_16 : decode cX5_begin 16 = .ok (.iconst 0, 1) := dec_0 oX5_begin (of3 _) rfl
theorem dX5_begin_17 : decode cX5_begin 17 = .ok (.putfield 75, 3) := dec_2 oX5_begin (of181 _) 0 75 rfl rfl
theorem dX5_begin_20 : decode cX5_begin 20 = .ok (.aload_n 0, 1) := dec_0 oX5_begin (of42 _) rfl
theorem dX5_begin_21 : decode cX5_begin 21 = .ok (.iconst 0, 1) := dec_0 oX5_begin (of3 _) rfl
theorem dX5_begin_22 : decode cX5_begin 22 = .ok (.putfield 87, 3) := dec_2 oX5_begin (of181 _) 0 87 rfl rfl
theorem dX5_begin_25 : decode cX5_begin 25 = .ok (.aload_n 0, 1) := dec_0 oX5_begin (of42 _) rfl
theorem dX5_begin_26 : decode cX5_begin 26 = .ok (.bipush (-2), 2) := dec_s1 oX5_begin (of16 _) 254 rfl (sg8n (k := 2) rfl) rfl
theorem dX5_begin_28 : decode cX5_begin 28 = .ok (.putfield 32, 3) := dec_2 oX5_begin (of181 _) 0 32 rfl rfl
theorem dX5_begin_31 : decode cX5_begin 31 = .ok (.aload_n 0, 1) := dec_0 oX5_begin (of42 _) rfl
theorem dX5_begin_32 : decode cX5_begin 32 = .ok (.iconst 0, 1) := dec_0 oX5_begin (of3 _) rfl
theorem dX5_begin_33 : decode cX5_begin 33 = .ok (.putfield 49, 3) := dec_2 oX5_begin (of181 _) 0 49 rfl rfl
theorem dX5_begin_36 : decode cX5_begin 36 = .ok (.aload_n 0, 1) := dec_0 oX5_begin (of42 _) rfl
theorem dX5_begin_37 : decode cX5_begin 37 = .ok (.iconst 0, 1) := dec_0 oX5_begin (of3 _) rfl
theorem dX5_begin_38 : decode cX5_begin 38 = .ok (.putfield 78, 3) := dec_2 oX5_begin (of181 _) 0 78 rfl rfl
theorem dX5_begin_4 : decode cX5_begin 4 = .ok (.invokevirtual 81, 3) := dec_2 oX5_begin (of182 _) 0 81 rfl rfl
theorem dX5_begin_41 : decode cX5_begin 41 = .ok (.aload_n 0, 1) := dec_0 oX5_begin (of42 _) rfl
theorem dX5_begin_42 : decode cX5_begin 42 = .ok (.iconst (-1), 1) := dec_0 oX5_begin (of2 _) rfl
theorem dX5_begin_43 : decode cX5_begin 43 = .ok (.putfield 36, 3) := dec_2 oX5_begin (of181 _) 0 36 rfl rfl
theorem dX5_begin_46 : decode cX5_begin 46 = .ok (.aload_n 0, 1) := dec_0 oX5_begin (of42 _) rfl
theorem dX5_begin_47 : decode cX5_begin 47 = .ok (.iconst (-1), 1) := dec_0 oX5_begin (of2 _) rfl
theorem dX5_begin_48 : decode cX5_begin 48 = .ok (.putfield 39, 3) := dec_2 oX5_begin (of181 _) 0 39 rfl rfl
theorem dX5_begin_51 : decode cX5_begin 51 = .ok (.aload_n 0, 1) := dec_0 oX5_begin (of42 _) rfl
theorem dX5_begin_52 : decode cX5_begin 52 = .ok (.getfield 42, 3) := dec_2 oX5_begin (of180 _) 0 42 rfl rfl
theorem dX5_begin_55 : decode cX5_begin 55 = .ok (.invokevirtual 90, 3) := dec_2 oX5_begin (of182 _) 0 90 rfl rfl
theorem dX5_begin_58 : decode cX5_begin 58 = .ok (.return_, 1) := dec_0 oX5_begin (of177 _) rfl
theorem dX5_begin_7 : decode cX5_begin 7 = .ok (.aload_n 0, 1) := dec_0 oX5_begin (of42 _) rfl
theorem dX5_begin_8 : decode cX5_begin 8 = .ok (.getfield 21, 3) := dec_2 oX5_begin (of180 _) 0 21 rfl rfl
theorem dX5_init_0 : decode cX5_init 0 = .ok (.aload_n 0, 1) := dec_0 oX5_init (of42 _) rfl
theorem dX5_init_1 : decode cX5_init 1 = .ok (.invokespecial 3, 3) := dec_2 oX5_init (of183 _) 0 3 rfl rfl
theorem dX5_init_12 : decode cX5_init 12 = .ok (.putfield 12, 3) := dec_2 oX5_init (of181 _) 0 12 rfl rfl
theorem dX5_init_15 : decode cX5_init 15 = .ok (.aload_n 0, 1) := dec_0 oX5_init (of42 _) rfl
theorem dX5_init_16 : decode cX5_init 16 = .ok (.new 18, 3) := dec_2 oX5_init (of187 _) 0 18 rfl rfl
theorem dX5_init_19 : decode cX5_init 19 = .ok (.dup, 1) := dec_0 oX5_init (of89 _) rfl
theorem dX5_init_20 : decode cX5_init 20 = .ok (.invokespecial 20, 3) := dec_2 oX5_init (of183 _) 0 20 rfl rfl
theorem dX5_init_23 : decode cX5_init 23 = .ok (.putfield 21, 3) := dec_2 oX5_init (of181 _) 0 21 rfl rfl
theorem dX5_init_26 : decode cX5_init 26 = .ok (.aload_n 0, 1) := dec_0 oX5_init (of42 _) rfl
theorem dX5_init_27 : decode cX5_init 27 = .ok (.iconst 5, 1) := dec_0 oX5_init (of8 _) rfl
theorem dX5_init_28 : decode cX5_init 28 = .ok (.newarray .int, 2) := by decide +kernel
theorem dX5_init_30 : decode cX5_init 30 = .ok (.putfield 25, 3) := dec_2 oX5_init (of181 _) 0 25 rfl rfl
theorem dX5_init_33 : decode cX5_init 33 = .ok (.aload_n 0, 1) := dec_0 oX5_init (of42 _) rfl
theorem dX5_init_34 : decode cX5_init 34 = .ok (.iconst 5, 1) := dec_0 oX5_init (of8 _) rfl
theorem dX5_init_35 : decode cX5_init 35 = .ok (.newarray .int, 2) := by decide +kernel
theorem dX5_init_37 : decode cX5_init 37 = .ok (.putfield 29, 3) := dec_2 oX5_init (of181 _) 0 29 rfl rfl
theorem dX5_init_4 : decode cX5_init 4 = .ok (.aload_n 0, 1) := dec_0 oX5_init (of42 _) rfl
theorem dX5_init_40 : decode cX5_init 40 = .ok (.aload_n 0, 1) := dec_0 oX5_init (of42 _) rfl
theorem dX5_init_41 : decode cX5_init 41 = .ok (.bipush (-2), 2) := dec_s1 oX5_init (of16 _) 254 rfl (sg8n (k := 2) rfl) rfl
theorem dX5_init_43 : decode cX5_init 43 = .ok (.putfield 32, 3) := dec_2 oX5_init (of181 _) 0 32 rfl rfl
theorem dX5_init_46 : decode cX5_init 46 = .ok (.aload_n 0, 1) := dec_0 oX5_init (of42 _) rfl
theorem dX5_init_47 : decode cX5_init 47 = .ok (.iconst (-1), 1) := dec_0 oX5_init (of2 _) rfl
theorem dX5_init_48 : decode cX5_init 48 = .ok (.putfield 36, 3) := dec_2 oX5_init (of181 _) 0 36 rfl rfl
theorem dX5_init_5 : decode cX5_init 5 = .ok (.new 9, 3) := dec_2 oX5_init (of187 _) 0 9 rfl rfl
theorem dX5_init_51 : decode cX5_init 51 = .ok (.aload_n 0, 1) := dec_0 oX5_init (of42 _) rfl
theorem dX5_init_52 : decode cX5_init 52 = .ok (.iconst (-1), 1) := dec_0 oX5_init (of2 _) rfl
theorem dX5_init_53 : decode cX5_init 53 = .ok (.putfield 39, 3) := dec_2 oX5_init (of181 _) 0 39 rfl rfl
theorem dX5_init_56 : decode cX5_init 56 = .ok (.aload_n 0, 1) := dec_0 oX5_init (of42 _) rfl
theorem dX5_init_57 : decode cX5_init 57 = .ok (.aload_n 1, 1) := dec_0 oX5_init (of43 _) rfl
theorem dX5_init_58 : decode cX5_init 58 = .ok (.putfield 42, 3) := dec_2 oX5_init (of181 _) 0 42 rfl rfl
theorem dX5_init_61 : decode cX5_init 61 = .ok (.return_, 1) := dec_0 oX5_init (of177 _) rfl
theorem dX5_init_8 : decode cX5_init 8 = .ok (.dup, 1) := dec_0 oX5_init (of89 _) rfl
theorem dX5_init_9 : decode cX5_init 9 = .ok (.invokespecial 11, 3) := dec_2 oX5_init (of183 _) 0 11 rfl rfl
theorem dX5_readText_0 : decode cX5_readText 0 = .ok (.aload_n 0, 1) := dec_0 oX5_readText (of42 _) rfl
theorem dX5_readText_1 : decode cX5_readText 1 = .ok (.invokevirtual 46, 3) := dec_2 oX5_readText (of182 _) 0 46 rfl rfl
theorem dX5_readText_10 : decode cX5_readText 10 = .ok (.if_icmp .gt 67, 3) := dec_s2 oX5_readText (of163 _) 0 67 rfl (sg16p rfl) rfl
theorem dX5_readText_100 : decode cX5_readText 100 = .ok (.ireturn, 1) := dec_0 oX5_readText (of172 _) rfl
theorem dX5_readText_13 : decode cX5_readText 13 = .ok (.aload_n 0, 1) := dec_0 oX5_readText (of42 _) rfl
theorem dX5_readText_14 : decode cX5_readText 14 = .ok (.getfield 49, 3) := dec_2 oX5_readText (of180 _) 0 49 rfl rfl
theorem dX5_readText_17 : decode cX5_readText 17 = .ok (.ifCond .ne 60, 3) := dec_s2 oX5_readText (of154 _) 0 60 rfl (sg16p rfl) rfl
theorem dX5_readText_20 : decode cX5_readText 20 = .ok (.aload_n 0, 1) := dec_0 oX5_readText (of42 _) rfl
theorem dX5_readText_21 : decode cX5_readText 21 = .ok (.getfield 42, 3) := dec_2 oX5_readText (of180 _) 0 42 rfl rfl
theorem dX5_readText_24 : decode cX5_readText 24 = .ok (.getfield 53, 3) := dec_2 oX5_readText (of180 _) 0 53 rfl rfl
theorem dX5_readText_27 : decode cX5_readText 27 = .ok (.ifCond .eq 50, 3) := dec_s2 oX5_readText (of153 _) 0 50 rfl (sg16p rfl) rfl
theorem dX5_readText_4 : decode cX5_readText 4 = .ok (.iconst 0, 1) := dec_0 oX5_readText (of3 _) rfl
theorem dX5_readText_5 : decode cX5_readText 5 = .ok (.istore_n 1, 1) := dec_0 oX5_readText (of60 _) rfl
theorem dX5_readText_6 : decode cX5_readText 6 = .ok (.iload_n 1, 1) := dec_0 oX5_readText (of27 _) rfl
theorem dX5_readText_7 : decode cX5_readText 7 = .ok (.sipush 400, 3) := dec_s2 oX5_readText (of17 _) 1 144 rfl (sg16p rfl) rfl
theorem dX5_readText_77 : decode cX5_readText 77 = .ok (.aload_n 0, 1) := dec_0 oX5_readText (of42 _) rfl
theorem dX5_readText_78 : decode cX5_readText 78 = .ok (.getfield 49, 3) := dec_2 oX5_readText (of180 _) 0 49 rfl rfl
theorem dX5_readText_81 : decode cX5_readText 81 = .ok (.ifCond .ne 15, 3) := dec_s2 oX5_readText (of154 _) 0 15 rfl (sg16p rfl) rfl
theorem dX5_readText_84 : decode cX5_readText 84 = .ok (.aload_n 0, 1) := dec_0 oX5_readText (of42 _) rfl
theorem dX5_readText_85 : decode cX5_readText 85 = .ok (.getfield 75, 3) := dec_2 oX5_readText (of180 _) 0 75 rfl rfl
theorem dX5_readText_88 : decode cX5_readText 88 = .ok (.ifCond .eq 8, 3) := dec_s2 oX5_readText (of153 _) 0 8 rfl (sg16p rfl) rfl
theorem dX5_readText_96 : decode cX5_readText 96 = .ok (.aload_n 0, 1) := dec_0 oX5_readText (of42 _) rfl
theorem dX5_readText_97 : decode cX5_readText 97 = .ok (.getfield 78, 3) := dec_2 oX5_readText (of180 _) 0 78 rfl rfl
theorem dX6_append_0 : decode cX6_append 0 = .ok (.aload_n 0, 1) := dec_0 oX6_append (of42 _) rfl
theorem dX6_append_1 : decode cX6_append 1 = .ok (.getfield 19, 3) := dec_2 oX6_append (of180 _) 0 19 rfl rfl
theorem dX6_append_12 : decode cX6_append 12 = .ok (.aload_n 0, 1) := dec_0 oX6_append (of42 _) rfl
theorem dX6_append_13 : decode cX6_append 13 = .ok (.getfield 11, 3) := dec_2 oX6_append (of180 _) 0 11 rfl rfl
theorem dX6_append_16 : decode cX6_append 16 = .ok (.aload_n 0, 1) := dec_0 oX6_append (of42 _) rfl
theorem dX6_append_17 : decode cX6_append 17 = .ok (.getfield 15, 3) := dec_2 oX6_append (of180 _) 0 15 rfl rfl
theorem dX6_append_20 : decode cX6_append 20 = .ok (.aload_n 0, 1) := dec_0 oX6_append (of42 _) rfl
theorem dX6_append_21 : decode cX6_append 21 = .ok (.getfield 19, 3) := dec_2 oX6_append (of180 _) 0 19 rfl rfl
theorem dX6_append_24 : decode cX6_append 24 = .ok (.iadd, 1) := dec_0 oX6_append (of96 _) rfl
theorem dX6_append_25 : decode cX6_append 25 = .ok (.sipush 255, 3) := dec_s2 oX6_append (of17 _) 0 255 rfl (sg16p rfl) rfl
theorem dX6_append_28 : decode cX6_append 28 = .ok (.iand, 1) := dec_0 oX6_append (of126 _) rfl
theorem dX6_append_29 : decode cX6_append 29 = .ok (.iload_n 1, 1) := dec_0 oX6_append (of27 _) rfl
theorem dX6_append_30 : decode cX6_append 30 = .ok (.iastore, 1) := dec_0 oX6_append (of79 _) rfl
theorem dX6_append_31 : decode cX6_append 31 = .ok (.aload_n 0, 1) := dec_0 oX6_append (of42 _) rfl
theorem dX6_append_32 : decode cX6_append 32 = .ok (.dup, 1) := dec_0 oX6_append (of89 _) rfl
theorem dX6_append_33 : decode cX6_append 33 = .ok (.getfield 19, 3) := dec_2 oX6_append (of180 _) 0 19 rfl rfl
theorem dX6_append_36 : decode cX6_append 36 = .ok (.iconst 1, 1) := dec_0 oX6_append (of4 _) rfl
theorem dX6_append_37 : decode cX6_append 37 = .ok (.iadd, 1) := dec_0 oX6_append (of96 _) rfl
theorem dX6_append_38 : decode cX6_append 38 = .ok (.putfield 19, 3) := dec_2 oX6_append (of181 _) 0 19 rfl rfl
theorem dX6_append_4 : decode cX6_append 4 = .ok (.sipush 160, 3) := dec_s2 oX6_append (of17 _) 0 160 rfl (sg16p rfl) rfl
theorem dX6_append_41 : decode cX6_append 41 = .ok (.iconst 1, 1) := dec_0 oX6_append (of4 _) rfl
theorem dX6_append_42 : decode cX6_append 42 = .ok (.ireturn, 1) := dec_0 oX6_append (of172 _) rfl
theorem dX6_append_7 : decode cX6_append 7 = .ok (.if_icmp .lt 5, 3) := dec_s2 oX6_append (of161 _) 0 5 rfl (sg16p rfl) rfl
theorem dX6_copyInto_0 : decode cX6_copyInto 0 = .ok (.aload_n 1, 1) := dec_0 oX6_copyInto (of43 _) rfl
theorem dX6_copyInto_1 : decode cX6_copyInto 1 = .ok (.iconst 0, 1) := dec_0 oX6_copyInto (of3 _) rfl
theorem dX6_copyInto_12 : decode cX6_copyInto 12 = .ok (.if_icmp .ge 18, 3) := dec_s2 oX6_copyInto (of162 _) 0 18 rfl (sg16p rfl) rfl
theorem dX6_copyInto_2 : decode cX6_copyInto 2 = .ok (.putfield 22, 3) := dec_2 oX6_copyInto (of181 _) 0 22 rfl rfl
theorem dX6_copyInto_30 : decode cX6_copyInto 30 = .ok (.return_, 1) := dec_0 oX6_copyInto (of177 _) rfl
theorem dX6_copyInto_5 : decode cX6_copyInto 5 = .ok (.iconst 0, 1) := dec_0 oX6_copyInto (of3 _) rfl
theorem dX6_copyInto_6 : decode cX6_copyInto 6 = .ok (.istore_n 2, 1) := dec_0 oX6_copyInto (of61 _) rfl
theorem dX6_copyInto_7 : decode cX6_copyInto 7 = .ok (.iload_n 2, 1) := dec_0 oX6_copyInto (of28 _) rfl
theorem dX6_copyInto_8 : decode cX6_copyInto 8 = .ok (.aload_n 0, 1) := dec_0 oX6_copyInto (of42 _) rfl
theorem dX6_copyInto_9 : decode cX6_copyInto 9 = .ok (.getfield 19, 3) := dec_2 oX6_copyInto (of180 _) 0 19 rfl rfl
theorem dX6_cutFirst_0 : decode cX6_cutFirst 0 = .ok (.iload_n 1, 1) := dec_0 oX6_cutFirst (of27 _) rfl
theorem dX6_cutFirst_1 : decode cX6_cutFirst 1 = .ok (.iconst 1, 1) := dec_0 oX6_cutFirst (of4 _) rfl
theorem dX6_cutFirst_10 : decode cX6_cutFirst 10 = .ok (.if_icmp .le 5, 3) := dec_s2 oX6_cutFirst (of164 _) 0 5 rfl (sg16p rfl) rfl
theorem dX6_cutFirst_13 : decode cX6_cutFirst 13 = .ok (.iconst 0, 1) := dec_0 oX6_cutFirst (of3 _) rfl
theorem dX6_cutFirst_14 : decode cX6_cutFirst 14 = .ok (.ireturn, 1) := dec_0 oX6_cutFirst (of172 _) rfl
theorem dX6_cutFirst_2 : decode cX6_cutFirst 2 = .ok (.if_icmp .lt 11, 3) := dec_s2 oX6_cutFirst (of161 _) 0 11 rfl (sg16p rfl) rfl
theorem dX6_cutFirst_5 : decode cX6_cutFirst 5 = .ok (.iload_n 1, 1) := dec_0 oX6_cutFirst (of27 _) rfl
theorem dX6_cutFirst_6 : decode cX6_cutFirst 6 = .ok (.aload_n 0, 1) := dec_0 oX6_cutFirst (of42 _) rfl
theorem dX6_cutFirst_7 : decode cX6_cutFirst 7 = .ok (.getfield 19, 3) := dec_2 oX6_cutFirst (of180 _) 0 19 rfl rfl
theorem dX6_flatWindows_0 : decode cX6_flatWindows 0 = .ok (.iconst 0, 1) := dec_0 oX6_flatWindows (of3 _) rfl
theorem dX6_flatWindows_1 : decode cX6_flatWindows 1 = .ok (.istore_n 2, 1) := dec_0 oX6_flatWindows (of61 _) rfl
theorem dX6_flatWindows_10 : decode cX6_flatWindows 10 = .ok (.getfield 19, 3) := dec_2 oX6_flatWindows (of180 _) 0 19 rfl rfl
theorem dX6_flatWindows_13 : decode cX6_flatWindows 13 = .ok (.if_icmp .ge 60, 3) := dec_s2 oX6_flatWindows (of162 _) 0 60 rfl (sg16p rfl) rfl
theorem dX6_flatWindows_2 : decode cX6_flatWindows 2 = .ok (.iconst 0, 1) := dec_0 oX6_flatWindows (of3 _) rfl
theorem dX6_flatWindows_3 : decode cX6_flatWindows 3 = .ok (.istore_n 3, 1) := dec_0 oX6_flatWindows (of62 _) rfl
theorem dX6_flatWindows_4 : decode cX6_flatWindows 4 = .ok (.iconst 0, 1) := dec_0 oX6_flatWindows (of3 _) rfl
theorem dX6_flatWindows_5 : decode cX6_flatWindows 5 = .ok (.istore 4, 2) := dec_1 oX6_flatWindows (of54 _) 4 rfl rfl
theorem dX6_flatWindows_7 : decode cX6_flatWindows 7 = .ok (.iload 4, 2) := dec_1 oX6_flatWindows (of21 _) 4 rfl rfl
theorem dX6_flatWindows_73 : decode cX6_flatWindows 73 = .ok (.iload_n 2, 1) := dec_0 oX6_flatWindows (of28 _) rfl
theorem dX6_flatWindows_74 : decode cX6_flatWindows 74 = .ok (.ireturn, 1) := dec_0 oX6_flatWindows (of172 _) rfl
theorem dX6_flatWindows_9 : decode cX6_flatWindows 9 = .ok (.aload_n 0, 1) := dec_0 oX6_flatWindows (of42 _) rfl
theorem dX6_gapCount_0 : decode cX6_gapCount 0 = .ok (.iconst 0, 1) := dec_0 oX6_gapCount (of3 _) rfl
theorem dX6_gapCount_1 : decode cX6_gapCount 1 = .ok (.istore_n 1, 1) := dec_0 oX6_gapCount (of60 _) rfl
theorem dX6_gapCount_2 : decode cX6_gapCount 2 = .ok (.iconst 0, 1) := dec_0 oX6_gapCount (of3 _) rfl
theorem dX6_gapCount_29 : decode cX6_gapCount 29 = .ok (.iload_n 1, 1) := dec_0 oX6_gapCount (of27 _) rfl
theorem dX6_gapCount_3 : decode cX6_gapCount 3 = .ok (.istore_n 2, 1) := dec_0 oX6_gapCount (of61 _) rfl
theorem dX6_gapCount_30 : decode cX6_gapCount 30 = .ok (.ireturn, 1) := dec_0 oX6_gapCount (of172 _) rfl
theorem dX6_gapCount_4 : decode cX6_gapCount 4 = .ok (.iload_n 2, 1) := dec_0 oX6_gapCount (of28 _) rfl
theorem dX6_gapCount_5 : decode cX6_gapCount 5 = .ok (.aload_n 0, 1) := dec_0 oX6_gapCount (of42 _) rfl
theorem dX6_gapCount_6 : decode cX6_gapCount 6 = .ok (.getfield 19, 3) := dec_2 oX6_gapCount (of180 _) 0 19 rfl rfl
theorem dX6_gapCount_9 : decode cX6_gapCount 9 = .ok (.if_icmp .ge 20, 3) := dec_s2 oX6_gapCount (of162 _) 0 20 rfl (sg16p rfl) rfl
theorem dX6_greatestOf_0 : decode cX6_greatestOf 0 = .ok (.sipush (-1000), 3) := dec_s2 oX6_greatestOf (of17 _) 252 24 rfl (sg16n (k := 1000) rfl) rfl
theorem dX6_greatestOf_10 : decode cX6_greatestOf 10 = .ok (.if_icmp .ge 22, 3) := dec_s2 oX6_greatestOf (of162 _) 0 22 rfl (sg16p rfl) rfl
theorem dX6_greatestOf_3 : decode cX6_greatestOf 3 = .ok (.istore_n 3, 1) := dec_0 oX6_greatestOf (of62 _) rfl
theorem dX6_greatestOf_32 : decode cX6_greatestOf 32 = .ok (.iload_n 3, 1) := dec_0 oX6_greatestOf (of29 _) rfl
theorem dX6_greatestOf_33 : decode cX6_greatestOf 33 = .ok (.ireturn, 1) := dec_0 oX6_greatestOf (of172 _) rfl
theorem dX6_greatestOf_4 : decode cX6_greatestOf 4 = .ok (.iconst 0, 1) := dec_0 oX6_greatestOf (of3 _) rfl
theorem dX6_greatestOf_5 : decode cX6_greatestOf 5 = .ok (.istore 4, 2) := dec_1 oX6_greatestOf (of54 _) 4 rfl rfl
theorem dX6_greatestOf_7 : decode cX6_greatestOf 7 = .ok (.iload 4, 2) := dec_1 oX6_greatestOf (of21 _) 4 rfl rfl
theorem dX6_greatestOf_9 : decode cX6_greatestOf 9 = .ok (.iload_n 2, 1) := dec_0 oX6_greatestOf (of28 _) rfl
theorem dX6_hasWindow_0 : decode cX6_hasWindow 0 = .ok (.iload_n 1, 1) := dec_0 oX6_hasWindow (of27 _) rfl
theorem dX6_hasWindow_1 : decode cX6_hasWindow 1 = .ok (.ifCond .lt 26, 3) := dec_s2 oX6_hasWindow (of155 _) 0 26 rfl (sg16p rfl) rfl
theorem dX6_hasWindow_27 : decode cX6_hasWindow 27 = .ok (.iconst 0, 1) := dec_0 oX6_hasWindow (of3 _) rfl
theorem dX6_hasWindow_28 : decode cX6_hasWindow 28 = .ok (.ireturn, 1) := dec_0 oX6_hasWindow (of172 _) rfl
theorem dX6_hasWindow_4 : decode cX6_hasWindow 4 = .ok (.iload_n 1, 1) := dec_0 oX6_hasWindow (of27 _) rfl
theorem dX6_hasWindow_5 : decode cX6_hasWindow 5 = .ok (.aload_n 0, 1) := dec_0 oX6_hasWindow (of42 _) rfl
theorem dX6_hasWindow_6 : decode cX6_hasWindow 6 = .ok (.getfield 19, 3) := dec_2 oX6_hasWindow (of180 _) 0 19 rfl rfl
theorem dX6_hasWindow_9 : decode cX6_hasWindow 9 = .ok (.if_icmp .ge 18, 3) := dec_s2 oX6_hasWindow (of162 _) 0 18 rfl (sg16p rfl) rfl
theorem dX6_init_0 : decode cX6_init 0 = .ok (.aload_n 0, 1) := dec_0 oX6_init (of42 _) rfl
theorem dX6_init_1 : decode cX6_init 1 = .ok (.invokespecial 5, 3) := dec_2 oX6_init (of183 _) 0 5 rfl rfl
theorem dX6_init_10 : decode cX6_init 10 = .ok (.putfield 11, 3) := dec_2 oX6_init (of181 _) 0 11 rfl rfl
theorem dX6_init_13 : decode cX6_init 13 = .ok (.return_, 1) := dec_0 oX6_init (of177 _) rfl
theorem dX6_init_4 : decode cX6_init 4 = .ok (.aload_n 0, 1) := dec_0 oX6_init (of42 _) rfl
theorem dX6_init_5 : decode cX6_init 5 = .ok (.sipush 256, 3) := dec_s2 oX6_init (of17 _) 1 0 rfl (sg16p rfl) rfl
theorem dX6_init_8 : decode cX6_init 8 = .ok (.newarray .int, 2) := by decide +kernel
theorem dX6_leastOf_0 : decode cX6_leastOf 0 = .ok (.sipush (-1000), 3) := dec_s2 oX6_leastOf (of17 _) 252 24 rfl (sg16n (k := 1000) rfl) rfl
theorem dX6_leastOf_10 : decode cX6_leastOf 10 = .ok (.if_icmp .ge 43, 3) := dec_s2 oX6_leastOf (of162 _) 0 43 rfl (sg16p rfl) rfl
theorem dX6_leastOf_3 : decode cX6_leastOf 3 = .ok (.istore_n 3, 1) := dec_0 oX6_leastOf (of62 _) rfl
theorem dX6_leastOf_4 : decode cX6_leastOf 4 = .ok (.iconst 0, 1) := dec_0 oX6_leastOf (of3 _) rfl
theorem dX6_leastOf_5 : decode cX6_leastOf 5 = .ok (.istore 4, 2) := dec_1 oX6_leastOf (of54 _) 4 rfl rfl
theorem dX6_leastOf_53 : decode cX6_leastOf 53 = .ok (.iload_n 3, 1) := dec_0 oX6_leastOf (of29 _) rfl
theorem dX6_leastOf_54 : decode cX6_leastOf 54 = .ok (.ireturn, 1) := dec_0 oX6_leastOf (of172 _) rfl
theorem dX6_leastOf_7 : decode cX6_leastOf 7 = .ok (.iload 4, 2) := dec_1 oX6_leastOf (of21 _) 4 rfl rfl
theorem dX6_leastOf_9 : decode cX6_leastOf 9 = .ok (.iload_n 2, 1) := dec_0 oX6_leastOf (of28 _) rfl
theorem dX6_longestRunFirst_0 : decode cX6_longestRunFirst 0 = .ok (.bipush (-2), 2) := dec_s1 oX6_longestRunFirst (of16 _) 254 rfl (sg8n (k := 2) rfl) rfl
theorem dX6_longestRunFirst_12 : decode cX6_longestRunFirst 12 = .ok (.if_icmp .ge 27, 3) := dec_s2 oX6_longestRunFirst (of162 _) 0 27 rfl (sg16p rfl) rfl
theorem dX6_longestRunFirst_2 : decode cX6_longestRunFirst 2 = .ok (.istore_n 1, 1) := dec_0 oX6_longestRunFirst (of60 _) rfl
theorem dX6_longestRunFirst_3 : decode cX6_longestRunFirst 3 = .ok (.iconst 0, 1) := dec_0 oX6_longestRunFirst (of3 _) rfl
theorem dX6_longestRunFirst_39 : decode cX6_longestRunFirst 39 = .ok (.iload_n 1, 1) := dec_0 oX6_longestRunFirst (of27 _) rfl
theorem dX6_longestRunFirst_4 : decode cX6_longestRunFirst 4 = .ok (.istore_n 2, 1) := dec_0 oX6_longestRunFirst (of61 _) rfl
theorem dX6_longestRunFirst_40 : decode cX6_longestRunFirst 40 = .ok (.ireturn, 1) := dec_0 oX6_longestRunFirst (of172 _) rfl
theorem dX6_longestRunFirst_5 : decode cX6_longestRunFirst 5 = .ok (.iconst 0, 1) := dec_0 oX6_longestRunFirst (of3 _) rfl
theorem dX6_longestRunFirst_6 : decode cX6_longestRunFirst 6 = .ok (.istore_n 3, 1) := dec_0 oX6_longestRunFirst (of62 _) rfl
theorem dX6_longestRunFirst_7 : decode cX6_longestRunFirst 7 = .ok (.iload_n 3, 1) := dec_0 oX6_longestRunFirst (of29 _) rfl
theorem dX6_longestRunFirst_8 : decode cX6_longestRunFirst 8 = .ok (.aload_n 0, 1) := dec_0 oX6_longestRunFirst (of42 _) rfl
theorem dX6_longestRunFirst_9 : decode cX6_longestRunFirst 9 = .ok (.getfield 19, 3) := dec_2 oX6_longestRunFirst (of180 _) 0 19 rfl rfl
theorem dX6_readingsAtEnd_0 : decode cX6_readingsAtEnd 0 = .ok (.iconst 0, 1) := dec_0 oX6_readingsAtEnd (of3 _) rfl
theorem dX6_readingsAtEnd_1 : decode cX6_readingsAtEnd 1 = .ok (.istore_n 1, 1) := dec_0 oX6_readingsAtEnd (of60 _) rfl
theorem dX6_readingsAtEnd_10 : decode cX6_readingsAtEnd 10 = .ok (.ifCond .lt 20, 3) := dec_s2 oX6_readingsAtEnd (of155 _) 0 20 rfl (sg16p rfl) rfl
theorem dX6_readingsAtEnd_2 : decode cX6_readingsAtEnd 2 = .ok (.aload_n 0, 1) := dec_0 oX6_readingsAtEnd (of42 _) rfl
theorem dX6_readingsAtEnd_3 : decode cX6_readingsAtEnd 3 = .ok (.getfield 19, 3) := dec_2 oX6_readingsAtEnd (of180 _) 0 19 rfl rfl
theorem dX6_readingsAtEnd_30 : decode cX6_readingsAtEnd 30 = .ok (.iload_n 1, 1) := dec_0 oX6_readingsAtEnd (of27 _) rfl
theorem dX6_readingsAtEnd_31 : decode cX6_readingsAtEnd 31 = .ok (.ireturn, 1) := dec_0 oX6_readingsAtEnd (of172 _) rfl
theorem dX6_readingsAtEnd_6 : decode cX6_readingsAtEnd 6 = .ok (.iconst 1, 1) := dec_0 oX6_readingsAtEnd (of4 _) rfl
theorem dX6_readingsAtEnd_7 : decode cX6_readingsAtEnd 7 = .ok (.isub, 1) := dec_0 oX6_readingsAtEnd (of100 _) rfl
theorem dX6_readingsAtEnd_8 : decode cX6_readingsAtEnd 8 = .ok (.istore_n 2, 1) := dec_0 oX6_readingsAtEnd (of61 _) rfl
theorem dX6_readingsAtEnd_9 : decode cX6_readingsAtEnd 9 = .ok (.iload_n 2, 1) := dec_0 oX6_readingsAtEnd (of28 _) rfl
theorem dX6_runFrom_0 : decode cX6_runFrom 0 = .ok (.iconst 0, 1) := dec_0 oX6_runFrom (of3 _) rfl
theorem dX6_runFrom_1 : decode cX6_runFrom 1 = .ok (.istore_n 2, 1) := dec_0 oX6_runFrom (of61 _) rfl
theorem dX6_runFrom_2 : decode cX6_runFrom 2 = .ok (.iload_n 1, 1) := dec_0 oX6_runFrom (of27 _) rfl
theorem dX6_runFrom_29 : decode cX6_runFrom 29 = .ok (.iload_n 2, 1) := dec_0 oX6_runFrom (of28 _) rfl
theorem dX6_runFrom_3 : decode cX6_runFrom 3 = .ok (.istore_n 3, 1) := dec_0 oX6_runFrom (of62 _) rfl
theorem dX6_runFrom_30 : decode cX6_runFrom 30 = .ok (.ireturn, 1) := dec_0 oX6_runFrom (of172 _) rfl
theorem dX6_runFrom_4 : decode cX6_runFrom 4 = .ok (.iload_n 3, 1) := dec_0 oX6_runFrom (of29 _) rfl
theorem dX6_runFrom_5 : decode cX6_runFrom 5 = .ok (.aload_n 0, 1) := dec_0 oX6_runFrom (of42 _) rfl
theorem dX6_runFrom_6 : decode cX6_runFrom 6 = .ok (.getfield 19, 3) := dec_2 oX6_runFrom (of180 _) 0 19 rfl rfl
theorem dX6_runFrom_9 : decode cX6_runFrom 9 = .ok (.if_icmp .ge 20, 3) := dec_s2 oX6_runFrom (of162 _) 0 20 rfl (sg16p rfl) rfl
theorem dX6_sumOf_0 : decode cX6_sumOf 0 = .ok (.iconst 0, 1) := dec_0 oX6_sumOf (of3 _) rfl
theorem dX6_sumOf_1 : decode cX6_sumOf 1 = .ok (.istore_n 3, 1) := dec_0 oX6_sumOf (of62 _) rfl
theorem dX6_sumOf_2 : decode cX6_sumOf 2 = .ok (.iconst 0, 1) := dec_0 oX6_sumOf (of3 _) rfl
theorem dX6_sumOf_3 : decode cX6_sumOf 3 = .ok (.istore 4, 2) := dec_1 oX6_sumOf (of54 _) 4 rfl rfl
theorem dX6_sumOf_39 : decode cX6_sumOf 39 = .ok (.iload_n 3, 1) := dec_0 oX6_sumOf (of29 _) rfl
theorem dX6_sumOf_40 : decode cX6_sumOf 40 = .ok (.ireturn, 1) := dec_0 oX6_sumOf (of172 _) rfl
theorem dX6_sumOf_5 : decode cX6_sumOf 5 = .ok (.iload 4, 2) := dec_1 oX6_sumOf (of21 _) 4 rfl rfl
theorem dX6_sumOf_7 : decode cX6_sumOf 7 = .ok (.iload_n 2, 1) := dec_0 oX6_sumOf (of28 _) rfl
theorem dX6_sumOf_8 : decode cX6_sumOf 8 = .ok (.if_icmp .ge 31, 3) := dec_s2 oX6_sumOf (of162 _) 0 31 rfl (sg16p rfl) rfl
theorem dX6_takeFrom_0 : decode cX6_takeFrom 0 = .ok (.aload_n 0, 1) := dec_0 oX6_takeFrom (of42 _) rfl
theorem dX6_takeFrom_1 : decode cX6_takeFrom 1 = .ok (.iconst 0, 1) := dec_0 oX6_takeFrom (of3 _) rfl
theorem dX6_takeFrom_10 : decode cX6_takeFrom 10 = .ok (.iconst 0, 1) := dec_0 oX6_takeFrom (of3 _) rfl
theorem dX6_takeFrom_11 : decode cX6_takeFrom 11 = .ok (.istore_n 2, 1) := dec_0 oX6_takeFrom (of61 _) rfl
theorem dX6_takeFrom_12 : decode cX6_takeFrom 12 = .ok (.iload_n 2, 1) := dec_0 oX6_takeFrom (of28 _) rfl
theorem dX6_takeFrom_13 : decode cX6_takeFrom 13 = .ok (.aload_n 1, 1) := dec_0 oX6_takeFrom (of43 _) rfl
theorem dX6_takeFrom_14 : decode cX6_takeFrom 14 = .ok (.getfield 22, 3) := dec_2 oX6_takeFrom (of180 _) 0 22 rfl rfl
theorem dX6_takeFrom_17 : decode cX6_takeFrom 17 = .ok (.if_icmp .ge 19, 3) := dec_s2 oX6_takeFrom (of162 _) 0 19 rfl (sg16p rfl) rfl
theorem dX6_takeFrom_2 : decode cX6_takeFrom 2 = .ok (.putfield 15, 3) := dec_2 oX6_takeFrom (of181 _) 0 15 rfl rfl
theorem dX6_takeFrom_36 : decode cX6_takeFrom 36 = .ok (.return_, 1) := dec_0 oX6_takeFrom (of177 _) rfl
theorem dX6_takeFrom_5 : decode cX6_takeFrom 5 = .ok (.aload_n 0, 1) := dec_0 oX6_takeFrom (of42 _) rfl
theorem dX6_takeFrom_6 : decode cX6_takeFrom 6 = .ok (.iconst 0, 1) := dec_0 oX6_takeFrom (of3 _) rfl
theorem dX6_takeFrom_7 : decode cX6_takeFrom 7 = .ok (.putfield 19, 3) := dec_2 oX6_takeFrom (of181 _) 0 19 rfl rfl
theorem dX6_valueAt_0 : decode cX6_valueAt 0 = .ok (.iload_n 1, 1) := dec_0 oX6_valueAt (of27 _) rfl
theorem dX6_valueAt_1 : decode cX6_valueAt 1 = .ok (.ifCond .lt 29, 3) := dec_s2 oX6_valueAt (of155 _) 0 29 rfl (sg16p rfl) rfl
theorem dX6_valueAt_30 : decode cX6_valueAt 30 = .ok (.sipush (-1000), 3) := dec_s2 oX6_valueAt (of17 _) 252 24 rfl (sg16n (k := 1000) rfl) rfl
theorem dX6_valueAt_33 : decode cX6_valueAt 33 = .ok (.ireturn, 1) := dec_0 oX6_valueAt (of172 _) rfl
theorem dX6_valueAt_4 : decode cX6_valueAt 4 = .ok (.iload_n 1, 1) := dec_0 oX6_valueAt (of27 _) rfl
theorem dX6_valueAt_5 : decode cX6_valueAt 5 = .ok (.aload_n 0, 1) := dec_0 oX6_valueAt (of42 _) rfl
theorem dX6_valueAt_6 : decode cX6_valueAt 6 = .ok (.getfield 19, 3) := dec_2 oX6_valueAt (of180 _) 0 19 rfl rfl
theorem dX6_valueAt_9 : decode cX6_valueAt 9 = .ok (.if_icmp .ge 21, 3) := dec_s2 oX6_valueAt (of162 _) 0 21 rfl (sg16p rfl) rfl
theorem dX7_allows_0 : decode cX7_allows 0 = .ok (.iload_n 0, 1) := dec_0 oX7_allows (of26 _) rfl
theorem dX7_allows_1 : decode cX7_allows 1 = .ok (.ifCond .lt 41, 3) := dec_s2 oX7_allows (of155 _) 0 41 rfl (sg16p rfl) rfl
theorem dX7_allows_12 : decode cX7_allows 12 = .ok (.iload_n 0, 1) := dec_0 oX7_allows (of26 _) rfl
theorem dX7_allows_13 : decode cX7_allows 13 = .ok (.getstatic 26, 3) := dec_2 oX7_allows (of178 _) 0 26 rfl rfl
theorem dX7_allows_16 : decode cX7_allows 16 = .ok (.arraylength, 1) := dec_0 oX7_allows (of190 _) rfl
theorem dX7_allows_17 : decode cX7_allows 17 = .ok (.if_icmp .ge 25, 3) := dec_s2 oX7_allows (of162 _) 0 25 rfl (sg16p rfl) rfl
theorem dX7_allows_20 : decode cX7_allows 20 = .ok (.iload_n 1, 1) := dec_0 oX7_allows (of27 _) rfl
theorem dX7_allows_21 : decode cX7_allows 21 = .ok (.getstatic 23, 3) := dec_2 oX7_allows (of178 _) 0 23 rfl rfl
theorem dX7_allows_24 : decode cX7_allows 24 = .ok (.iload_n 0, 1) := dec_0 oX7_allows (of26 _) rfl
theorem dX7_allows_25 : decode cX7_allows 25 = .ok (.iaload, 1) := dec_0 oX7_allows (of46 _) rfl
theorem dX7_allows_26 : decode cX7_allows 26 = .ok (.if_icmp .lt 16, 3) := dec_s2 oX7_allows (of161 _) 0 16 rfl (sg16p rfl) rfl
theorem dX7_allows_29 : decode cX7_allows 29 = .ok (.iload_n 1, 1) := dec_0 oX7_allows (of27 _) rfl
theorem dX7_allows_30 : decode cX7_allows 30 = .ok (.getstatic 26, 3) := dec_2 oX7_allows (of178 _) 0 26 rfl rfl
theorem dX7_allows_33 : decode cX7_allows 33 = .ok (.iload_n 0, 1) := dec_0 oX7_allows (of26 _) rfl
theorem dX7_allows_34 : decode cX7_allows 34 = .ok (.iaload, 1) := dec_0 oX7_allows (of46 _) rfl
theorem dX7_allows_35 : decode cX7_allows 35 = .ok (.if_icmp .gt 7, 3) := dec_s2 oX7_allows (of163 _) 0 7 rfl (sg16p rfl) rfl
theorem dX7_allows_38 : decode cX7_allows 38 = .ok (.iconst 1, 1) := dec_0 oX7_allows (of4 _) rfl
theorem dX7_allows_39 : decode cX7_allows 39 = .ok (.goto 4, 3) := dec_s2 oX7_allows (of167 _) 0 4 rfl (sg16p rfl) rfl
theorem dX7_allows_4 : decode cX7_allows 4 = .ok (.iload_n 0, 1) := dec_0 oX7_allows (of26 _) rfl
theorem dX7_allows_42 : decode cX7_allows 42 = .ok (.iconst 0, 1) := dec_0 oX7_allows (of3 _) rfl
theorem dX7_allows_43 : decode cX7_allows 43 = .ok (.ireturn, 1) := dec_0 oX7_allows (of172 _) rfl
theorem dX7_allows_5 : decode cX7_allows 5 = .ok (.getstatic 23, 3) := dec_2 oX7_allows (of178 _) 0 23 rfl rfl
theorem dX7_allows_8 : decode cX7_allows 8 = .ok (.arraylength, 1) := dec_0 oX7_allows (of190 _) rfl
theorem dX7_allows_9 : decode cX7_allows 9 = .ok (.if_icmp .ge 33, 3) := dec_s2 oX7_allows (of162 _) 0 33 rfl (sg16p rfl) rfl
theorem dX7_clear_0 : decode cX7_clear 0 = .ok (.iconst 0, 1) := dec_0 oX7_clear (of3 _) rfl
theorem dX7_clear_1 : decode cX7_clear 1 = .ok (.istore_n 1, 1) := dec_0 oX7_clear (of60 _) rfl
theorem dX7_clear_10 : decode cX7_clear 10 = .ok (.aload_n 0, 1) := dec_0 oX7_clear (of42 _) rfl
theorem dX7_clear_11 : decode cX7_clear 11 = .ok (.iload_n 1, 1) := dec_0 oX7_clear (of27 _) rfl
theorem dX7_clear_12 : decode cX7_clear 12 = .ok (.getstatic 9, 3) := dec_2 oX7_clear (of178 _) 0 9 rfl rfl
theorem dX7_clear_15 : decode cX7_clear 15 = .ok (.iload_n 1, 1) := dec_0 oX7_clear (of27 _) rfl
theorem dX7_clear_16 : decode cX7_clear 16 = .ok (.iaload, 1) := dec_0 oX7_clear (of46 _) rfl
theorem dX7_clear_17 : decode cX7_clear 17 = .ok (.invokevirtual 29, 3) := dec_2 oX7_clear (of182 _) 0 29 rfl rfl
theorem dX7_clear_2 : decode cX7_clear 2 = .ok (.iload_n 1, 1) := dec_0 oX7_clear (of27 _) rfl
theorem dX7_clear_20 : decode cX7_clear 20 = .ok (.iinc 1 1, 3) := dec_ii oX7_clear (of132 _) 1 1 rfl (sg8p rfl) rfl
theorem dX7_clear_23 : decode cX7_clear 23 = .ok (.goto (-21), 3) := dec_s2 oX7_clear (of167 _) 255 235 rfl (sg16n (k := 21) rfl) rfl
theorem dX7_clear_26 : decode cX7_clear 26 = .ok (.return_, 1) := dec_0 oX7_clear (of177 _) rfl
theorem dX7_clear_3 : decode cX7_clear 3 = .ok (.getstatic 9, 3) := dec_2 oX7_clear (of178 _) 0 9 rfl rfl
theorem dX7_clear_6 : decode cX7_clear 6 = .ok (.arraylength, 1) := dec_0 oX7_clear (of190 _) rfl
theorem dX7_clear_7 : decode cX7_clear 7 = .ok (.if_icmp .ge 19, 3) := dec_s2 oX7_clear (of162 _) 0 19 rfl (sg16p rfl) rfl
theorem dX7_init_0 : decode cX7_init 0 = .ok (.aload_n 0, 1) := dec_0 oX7_init (of42 _) rfl
theorem dX7_init_1 : decode cX7_init 1 = .ok (.invokespecial 3, 3) := dec_2 oX7_init (of183 _) 0 3 rfl rfl
theorem dX7_init_11 : decode cX7_init 11 = .ok (.checkcast 16, 3) := dec_2 oX7_init (of192 _) 0 16 rfl rfl
theorem dX7_init_14 : decode cX7_init 14 = .ok (.putfield 20, 3) := dec_2 oX7_init (of181 _) 0 20 rfl rfl
theorem dX7_init_17 : decode cX7_init 17 = .ok (.return_, 1) := dec_0 oX7_init (of177 _) rfl
theorem dX7_init_4 : decode cX7_init 4 = .ok (.aload_n 0, 1) := dec_0 oX7_init (of42 _) rfl
theorem dX7_init_5 : decode cX7_init 5 = .ok (.getstatic 9, 3) := dec_2 oX7_init (of178 _) 0 9 rfl rfl
theorem dX7_init_8 : decode cX7_init 8 = .ok (.invokevirtual 15, 3) := dec_2 oX7_init (of182 _) 0 15 rfl rfl
theorem dX7_put_0 : decode cX7_put 0 = .ok (.iload_n 1, 1) := dec_0 oX7_put (of27 _) rfl
theorem dX7_put_1 : decode cX7_put 1 = .ok (.ifCond .lt 19, 3) := dec_s2 oX7_put (of155 _) 0 19 rfl (sg16p rfl) rfl
theorem dX7_put_10 : decode cX7_put 10 = .ok (.if_icmp .ge 10, 3) := dec_s2 oX7_put (of162 _) 0 10 rfl (sg16p rfl) rfl
theorem dX7_put_13 : decode cX7_put 13 = .ok (.aload_n 0, 1) := dec_0 oX7_put (of42 _) rfl
theorem dX7_put_14 : decode cX7_put 14 = .ok (.getfield 20, 3) := dec_2 oX7_put (of180 _) 0 20 rfl rfl
theorem dX7_put_17 : decode cX7_put 17 = .ok (.iload_n 1, 1) := dec_0 oX7_put (of27 _) rfl
theorem dX7_put_18 : decode cX7_put 18 = .ok (.iload_n 2, 1) := dec_0 oX7_put (of28 _) rfl
theorem dX7_put_19 : decode cX7_put 19 = .ok (.iastore, 1) := dec_0 oX7_put (of79 _) rfl
theorem dX7_put_20 : decode cX7_put 20 = .ok (.return_, 1) := dec_0 oX7_put (of177 _) rfl
theorem dX7_put_4 : decode cX7_put 4 = .ok (.iload_n 1, 1) := dec_0 oX7_put (of27 _) rfl
theorem dX7_put_5 : decode cX7_put 5 = .ok (.aload_n 0, 1) := dec_0 oX7_put (of42 _) rfl
theorem dX7_put_6 : decode cX7_put 6 = .ok (.getfield 20, 3) := dec_2 oX7_put (of180 _) 0 20 rfl rfl
theorem dX7_put_9 : decode cX7_put 9 = .ok (.arraylength, 1) := dec_0 oX7_put (of190 _) rfl
theorem dX7_takeFrom_0 : decode cX7_takeFrom 0 = .ok (.iconst 0, 1) := dec_0 oX7_takeFrom (of3 _) rfl
theorem dX7_takeFrom_1 : decode cX7_takeFrom 1 = .ok (.istore_n 2, 1) := dec_0 oX7_takeFrom (of61 _) rfl
theorem dX7_takeFrom_11 : decode cX7_takeFrom 11 = .ok (.aload_n 0, 1) := dec_0 oX7_takeFrom (of42 _) rfl
theorem dX7_takeFrom_12 : decode cX7_takeFrom 12 = .ok (.getfield 20, 3) := dec_2 oX7_takeFrom (of180 _) 0 20 rfl rfl
theorem dX7_takeFrom_15 : decode cX7_takeFrom 15 = .ok (.iload_n 2, 1) := dec_0 oX7_takeFrom (of28 _) rfl
theorem dX7_takeFrom_16 : decode cX7_takeFrom 16 = .ok (.aload_n 1, 1) := dec_0 oX7_takeFrom (of43 _) rfl
theorem dX7_takeFrom_17 : decode cX7_takeFrom 17 = .ok (.iload_n 2, 1) := dec_0 oX7_takeFrom (of28 _) rfl
theorem dX7_takeFrom_18 : decode cX7_takeFrom 18 = .ok (.invokevirtual 33, 3) := dec_2 oX7_takeFrom (of182 _) 0 33 rfl rfl
theorem dX7_takeFrom_2 : decode cX7_takeFrom 2 = .ok (.iload_n 2, 1) := dec_0 oX7_takeFrom (of28 _) rfl
theorem dX7_takeFrom_21 : decode cX7_takeFrom 21 = .ok (.iastore, 1) := dec_0 oX7_takeFrom (of79 _) rfl
theorem dX7_takeFrom_22 : decode cX7_takeFrom 22 = .ok (.iinc 2 1, 3) := dec_ii oX7_takeFrom (of132 _) 2 1 rfl (sg8p rfl) rfl
theorem dX7_takeFrom_25 : decode cX7_takeFrom 25 = .ok (.goto (-23), 3) := dec_s2 oX7_takeFrom (of167 _) 255 233 rfl (sg16n (k := 23) rfl) rfl
theorem dX7_takeFrom_28 : decode cX7_takeFrom 28 = .ok (.return_, 1) := dec_0 oX7_takeFrom (of177 _) rfl
theorem dX7_takeFrom_3 : decode cX7_takeFrom 3 = .ok (.aload_n 0, 1) := dec_0 oX7_takeFrom (of42 _) rfl
theorem dX7_takeFrom_4 : decode cX7_takeFrom 4 = .ok (.getfield 20, 3) := dec_2 oX7_takeFrom (of180 _) 0 20 rfl rfl
theorem dX7_takeFrom_7 : decode cX7_takeFrom 7 = .ok (.arraylength, 1) := dec_0 oX7_takeFrom (of190 _) rfl
theorem dX7_takeFrom_8 : decode cX7_takeFrom 8 = .ok (.if_icmp .ge 20, 3) := dec_s2 oX7_takeFrom (of162 _) 0 20 rfl (sg16p rfl) rfl
theorem dX7_valueOf_0 : decode cX7_valueOf 0 = .ok (.iload_n 1, 1) := dec_0 oX7_valueOf (of27 _) rfl
theorem dX7_valueOf_1 : decode cX7_valueOf 1 = .ok (.ifCond .lt 21, 3) := dec_s2 oX7_valueOf (of155 _) 0 21 rfl (sg16p rfl) rfl
theorem dX7_valueOf_10 : decode cX7_valueOf 10 = .ok (.if_icmp .ge 12, 3) := dec_s2 oX7_valueOf (of162 _) 0 12 rfl (sg16p rfl) rfl
theorem dX7_valueOf_13 : decode cX7_valueOf 13 = .ok (.aload_n 0, 1) := dec_0 oX7_valueOf (of42 _) rfl
theorem dX7_valueOf_14 : decode cX7_valueOf 14 = .ok (.getfield 20, 3) := dec_2 oX7_valueOf (of180 _) 0 20 rfl rfl
theorem dX7_valueOf_17 : decode cX7_valueOf 17 = .ok (.iload_n 1, 1) := dec_0 oX7_valueOf (of27 _) rfl
theorem dX7_valueOf_18 : decode cX7_valueOf 18 = .ok (.iaload, 1) := dec_0 oX7_valueOf (of46 _) rfl
theorem dX7_valueOf_19 : decode cX7_valueOf 19 = .ok (.goto 4, 3) := dec_s2 oX7_valueOf (of167 _) 0 4 rfl (sg16p rfl) rfl
theorem dX7_valueOf_22 : decode cX7_valueOf 22 = .ok (.iconst (-1), 1) := dec_0 oX7_valueOf (of2 _) rfl
theorem dX7_valueOf_23 : decode cX7_valueOf 23 = .ok (.ireturn, 1) := dec_0 oX7_valueOf (of172 _) rfl
theorem dX7_valueOf_4 : decode cX7_valueOf 4 = .ok (.iload_n 1, 1) := dec_0 oX7_valueOf (of27 _) rfl
theorem dX7_valueOf_5 : decode cX7_valueOf 5 = .ok (.aload_n 0, 1) := dec_0 oX7_valueOf (of42 _) rfl
theorem dX7_valueOf_6 : decode cX7_valueOf 6 = .ok (.getfield 20, 3) := dec_2 oX7_valueOf (of180 _) 0 20 rfl rfl
theorem dX7_valueOf_9 : decode cX7_valueOf 9 = .ok (.arraylength, 1) := dec_0 oX7_valueOf (of190 _) rfl
theorem dX8_clear_0 : decode cX8_clear 0 = .ok (.aload_n 0, 1) := dec_0 oX8_clear (of42 _) rfl
theorem dX8_clear_1 : decode cX8_clear 1 = .ok (.iconst 0, 1) := dec_0 oX8_clear (of3 _) rfl
theorem dX8_clear_12 : decode cX8_clear 12 = .ok (.return_, 1) := dec_0 oX8_clear (of177 _) rfl
theorem dX8_clear_2 : decode cX8_clear 2 = .ok (.putfield 22, 3) := dec_2 oX8_clear (of181 _) 0 22 rfl rfl
theorem dX8_clear_5 : decode cX8_clear 5 = .ok (.aload_n 0, 1) := dec_0 oX8_clear (of42 _) rfl
theorem dX8_clear_6 : decode cX8_clear 6 = .ok (.getfield 18, 3) := dec_2 oX8_clear (of180 _) 0 18 rfl rfl
theorem dX8_clear_9 : decode cX8_clear 9 = .ok (.invokevirtual 26, 3) := dec_2 oX8_clear (of182 _) 0 26 rfl rfl
theorem dX8_init_0 : decode cX8_init 0 = .ok (.aload_n 0, 1) := dec_0 oX8_init (of42 _) rfl
theorem dX8_init_1 : decode cX8_init 1 = .ok (.invokespecial 3, 3) := dec_2 oX8_init (of183 _) 0 3 rfl rfl
theorem dX8_init_10 : decode cX8_init 10 = .ok (.putfield 9, 3) := dec_2 oX8_init (of181 _) 0 9 rfl rfl
theorem dX8_init_13 : decode cX8_init 13 = .ok (.aload_n 0, 1) := dec_0 oX8_init (of42 _) rfl
theorem dX8_init_14 : decode cX8_init 14 = .ok (.new 15, 3) := dec_2 oX8_init (of187 _) 0 15 rfl rfl
theorem dX8_init_17 : decode cX8_init 17 = .ok (.dup, 1) := dec_0 oX8_init (of89 _) rfl
theorem dX8_init_18 : decode cX8_init 18 = .ok (.invokespecial 17, 3) := dec_2 oX8_init (of183 _) 0 17 rfl rfl
theorem dX8_init_21 : decode cX8_init 21 = .ok (.putfield 18, 3) := dec_2 oX8_init (of181 _) 0 18 rfl rfl
theorem dX8_init_24 : decode cX8_init 24 = .ok (.return_, 1) := dec_0 oX8_init (of177 _) rfl
theorem dX8_init_4 : decode cX8_init 4 = .ok (.aload_n 0, 1) := dec_0 oX8_init (of42 _) rfl
theorem dX8_init_5 : decode cX8_init 5 = .ok (.sipush 160, 3) := dec_s2 oX8_init (of17 _) 0 160 rfl (sg16p rfl) rfl
theorem dX8_init_8 : decode cX8_init 8 = .ok (.newarray .int, 2) := by decide +kernel
theorem dX9_bringAll_0 : decode cX9_bringAll 0 = .ok (.iconst 0, 1) := dec_0 oX9_bringAll (of3 _) rfl
theorem dX9_bringAll_1 : decode cX9_bringAll 1 = .ok (.istore_n 2, 1) := dec_0 oX9_bringAll (of61 _) rfl
theorem dX9_bringAll_10 : decode cX9_bringAll 10 = .ok (.getfield 15, 3) := dec_2 oX9_bringAll (of180 _) 0 15 rfl rfl
theorem dX9_bringAll_13 : decode cX9_bringAll 13 = .ok (.iload_n 2, 1) := dec_0 oX9_bringAll (of28 _) rfl
theorem dX9_bringAll_14 : decode cX9_bringAll 14 = .ok (.aload_n 0, 1) := dec_0 oX9_bringAll (of42 _) rfl
theorem dX9_bringAll_15 : decode cX9_bringAll 15 = .ok (.getfield 19, 3) := dec_2 oX9_bringAll (of180 _) 0 19 rfl rfl
theorem dX9_bringAll_18 : decode cX9_bringAll 18 = .ok (.getfield 30, 3) := dec_2 oX9_bringAll (of180 _) 0 30 rfl rfl
theorem dX9_bringAll_2 : decode cX9_bringAll 2 = .ok (.iload_n 2, 1) := dec_0 oX9_bringAll (of28 _) rfl
theorem dX9_bringAll_21 : decode cX9_bringAll 21 = .ok (.iload_n 2, 1) := dec_0 oX9_bringAll (of28 _) rfl
theorem dX9_bringAll_22 : decode cX9_bringAll 22 = .ok (.iload_n 1, 1) := dec_0 oX9_bringAll (of27 _) rfl
theorem dX9_bringAll_23 : decode cX9_bringAll 23 = .ok (.invokevirtual 34, 3) := dec_2 oX9_bringAll (of182 _) 0 34 rfl rfl
theorem dX9_bringAll_26 : decode cX9_bringAll 26 = .ok (.bastore, 1) := dec_0 oX9_bringAll (of84 _) rfl
theorem dX9_bringAll_27 : decode cX9_bringAll 27 = .ok (.aload_n 0, 1) := dec_0 oX9_bringAll (of42 _) rfl
theorem dX9_bringAll_28 : decode cX9_bringAll 28 = .ok (.getfield 15, 3) := dec_2 oX9_bringAll (of180 _) 0 15 rfl rfl
theorem dX9_bringAll_3 : decode cX9_bringAll 3 = .ok (.sipush 160, 3) := dec_s2 oX9_bringAll (of17 _) 0 160 rfl (sg16p rfl) rfl
theorem dX9_bringAll_31 : decode cX9_bringAll 31 = .ok (.iload_n 2, 1) := dec_0 oX9_bringAll (of28 _) rfl
theorem dX9_bringAll_32 : decode cX9_bringAll 32 = .ok (.baload, 1) := dec_0 oX9_bringAll (of51 _) rfl
theorem dX9_bringAll_33 : decode cX9_bringAll 33 = .ok (.ifCond .eq 27, 3) := dec_s2 oX9_bringAll (of153 _) 0 27 rfl (sg16p rfl) rfl
theorem dX9_bringAll_6 : decode cX9_bringAll 6 = .ok (.if_icmp .ge 60, 3) := dec_s2 oX9_bringAll (of162 _) 0 60 rfl (sg16p rfl) rfl
theorem dX9_bringAll_60 : decode cX9_bringAll 60 = .ok (.iinc 2 1, 3) := dec_ii oX9_bringAll (of132 _) 2 1 rfl (sg8p rfl) rfl
theorem dX9_bringAll_63 : decode cX9_bringAll 63 = .ok (.goto (-61), 3) := dec_s2 oX9_bringAll (of167 _) 255 195 rfl (sg16n (k := 61) rfl) rfl
theorem dX9_bringAll_66 : decode cX9_bringAll 66 = .ok (.return_, 1) := dec_0 oX9_bringAll (of177 _) rfl
theorem dX9_bringAll_9 : decode cX9_bringAll 9 = .ok (.aload_n 0, 1) := dec_0 oX9_bringAll (of42 _) rfl
theorem dX9_findOdd_0 : decode cX9_findOdd 0 = .ok (.aload_n 0, 1) := dec_0 oX9_findOdd (of42 _) rfl
theorem dX9_findOdd_1 : decode cX9_findOdd 1 = .ok (.bipush (-2), 2) := dec_s1 oX9_findOdd (of16 _) 254 rfl (sg8n (k := 2) rfl) rfl
theorem dX9_findOdd_12 : decode cX9_findOdd 12 = .ok (.aload_n 0, 1) := dec_0 oX9_findOdd (of42 _) rfl
theorem dX9_findOdd_13 : decode cX9_findOdd 13 = .ok (.iload_n 1, 1) := dec_0 oX9_findOdd (of27 _) rfl
theorem dX9_findOdd_14 : decode cX9_findOdd 14 = .ok (.invokevirtual 50, 3) := dec_2 oX9_findOdd (of182 _) 0 50 rfl rfl
theorem dX9_findOdd_17 : decode cX9_findOdd 17 = .ok (.iconst 0, 1) := dec_0 oX9_findOdd (of3 _) rfl
theorem dX9_findOdd_18 : decode cX9_findOdd 18 = .ok (.istore_n 2, 1) := dec_0 oX9_findOdd (of61 _) rfl
theorem dX9_findOdd_19 : decode cX9_findOdd 19 = .ok (.iload_n 2, 1) := dec_0 oX9_findOdd (of28 _) rfl
theorem dX9_findOdd_20 : decode cX9_findOdd 20 = .ok (.sipush 160, 3) := dec_s2 oX9_findOdd (of17 _) 0 160 rfl (sg16p rfl) rfl
theorem dX9_findOdd_23 : decode cX9_findOdd 23 = .ok (.if_icmp .ge 62, 3) := dec_s2 oX9_findOdd (of162 _) 0 62 rfl (sg16p rfl) rfl
theorem dX9_findOdd_26 : decode cX9_findOdd 26 = .ok (.aload_n 0, 1) := dec_0 oX9_findOdd (of42 _) rfl
theorem dX9_findOdd_27 : decode cX9_findOdd 27 = .ok (.getfield 15, 3) := dec_2 oX9_findOdd (of180 _) 0 15 rfl rfl
theorem dX9_findOdd_3 : decode cX9_findOdd 3 = .ok (.putfield 98, 3) := dec_2 oX9_findOdd (of181 _) 0 98 rfl rfl
theorem dX9_findOdd_30 : decode cX9_findOdd 30 = .ok (.iload_n 2, 1) := dec_0 oX9_findOdd (of28 _) rfl
theorem dX9_findOdd_31 : decode cX9_findOdd 31 = .ok (.baload, 1) := dec_0 oX9_findOdd (of51 _) rfl
theorem dX9_findOdd_32 : decode cX9_findOdd 32 = .ok (.ifCond .ne 6, 3) := dec_s2 oX9_findOdd (of154 _) 0 6 rfl (sg16p rfl) rfl
theorem dX9_findOdd_35 : decode cX9_findOdd 35 = .ok (.goto 44, 3) := dec_s2 oX9_findOdd (of167 _) 0 44 rfl (sg16p rfl) rfl
theorem dX9_findOdd_6 : decode cX9_findOdd 6 = .ok (.aload_n 0, 1) := dec_0 oX9_findOdd (of42 _) rfl
theorem dX9_findOdd_7 : decode cX9_findOdd 7 = .ok (.bipush (-2), 2) := dec_s1 oX9_findOdd (of16 _) 254 rfl (sg8n (k := 2) rfl) rfl
theorem dX9_findOdd_79 : decode cX9_findOdd 79 = .ok (.iinc 2 1, 3) := dec_ii oX9_findOdd (of132 _) 2 1 rfl (sg8p rfl) rfl
theorem dX9_findOdd_82 : decode cX9_findOdd 82 = .ok (.goto (-63), 3) := dec_s2 oX9_findOdd (of167 _) 255 193 rfl (sg16n (k := 63) rfl) rfl
theorem dX9_findOdd_85 : decode cX9_findOdd 85 = .ok (.return_, 1) := dec_0 oX9_findOdd (of177 _) rfl
theorem dX9_findOdd_9 : decode cX9_findOdd 9 = .ok (.putfield 101, 3) := dec_2 oX9_findOdd (of181 _) 0 101 rfl rfl
theorem dX9_findPair_0 : decode cX9_findPair 0 = .ok (.aload_n 0, 1) := dec_0 oX9_findPair (of42 _) rfl
theorem dX9_findPair_1 : decode cX9_findPair 1 = .ok (.bipush (-2), 2) := dec_s1 oX9_findPair (of16 _) 254 rfl (sg8n (k := 2) rfl) rfl
theorem dX9_findPair_12 : decode cX9_findPair 12 = .ok (.aload_n 0, 1) := dec_0 oX9_findPair (of42 _) rfl
theorem dX9_findPair_13 : decode cX9_findPair 13 = .ok (.bipush (-2), 2) := dec_s1 oX9_findPair (of16 _) 254 rfl (sg8n (k := 2) rfl) rfl
theorem dX9_findPair_15 : decode cX9_findPair 15 = .ok (.putfield 92, 3) := dec_2 oX9_findPair (of181 _) 0 92 rfl rfl
theorem dX9_findPair_18 : decode cX9_findPair 18 = .ok (.aload_n 0, 1) := dec_0 oX9_findPair (of42 _) rfl
theorem dX9_findPair_19 : decode cX9_findPair 19 = .ok (.iload_n 1, 1) := dec_0 oX9_findPair (of27 _) rfl
theorem dX9_findPair_20 : decode cX9_findPair 20 = .ok (.invokevirtual 50, 3) := dec_2 oX9_findPair (of182 _) 0 50 rfl rfl
theorem dX9_findPair_23 : decode cX9_findPair 23 = .ok (.iconst 0, 1) := dec_0 oX9_findPair (of3 _) rfl
theorem dX9_findPair_24 : decode cX9_findPair 24 = .ok (.istore_n 2, 1) := dec_0 oX9_findPair (of61 _) rfl
theorem dX9_findPair_25 : decode cX9_findPair 25 = .ok (.iload_n 2, 1) := dec_0 oX9_findPair (of28 _) rfl
theorem dX9_findPair_26 : decode cX9_findPair 26 = .ok (.sipush 160, 3) := dec_s2 oX9_findPair (of17 _) 0 160 rfl (sg16p rfl) rfl
theorem dX9_findPair_29 : decode cX9_findPair 29 = .ok (.if_icmp .ge 39, 3) := dec_s2 oX9_findPair (of162 _) 0 39 rfl (sg16p rfl) rfl
theorem dX9_findPair_3 : decode cX9_findPair 3 = .ok (.putfield 86, 3) := dec_2 oX9_findPair (of181 _) 0 86 rfl rfl
theorem dX9_findPair_32 : decode cX9_findPair 32 = .ok (.aload_n 0, 1) := dec_0 oX9_findPair (of42 _) rfl
theorem dX9_findPair_33 : decode cX9_findPair 33 = .ok (.getfield 15, 3) := dec_2 oX9_findPair (of180 _) 0 15 rfl rfl
theorem dX9_findPair_36 : decode cX9_findPair 36 = .ok (.iload_n 2, 1) := dec_0 oX9_findPair (of28 _) rfl
theorem dX9_findPair_37 : decode cX9_findPair 37 = .ok (.baload, 1) := dec_0 oX9_findPair (of51 _) rfl
theorem dX9_findPair_38 : decode cX9_findPair 38 = .ok (.ifCond .eq 24, 3) := dec_s2 oX9_findPair (of153 _) 0 24 rfl (sg16p rfl) rfl
theorem dX9_findPair_6 : decode cX9_findPair 6 = .ok (.aload_n 0, 1) := dec_0 oX9_findPair (of42 _) rfl
theorem dX9_findPair_62 : decode cX9_findPair 62 = .ok (.iinc 2 1, 3) := dec_ii oX9_findPair (of132 _) 2 1 rfl (sg8p rfl) rfl
theorem dX9_findPair_65 : decode cX9_findPair 65 = .ok (.goto (-40), 3) := dec_s2 oX9_findPair (of167 _) 255 216 rfl (sg16n (k := 40) rfl) rfl
theorem dX9_findPair_68 : decode cX9_findPair 68 = .ok (.return_, 1) := dec_0 oX9_findPair (of177 _) rfl
theorem dX9_findPair_7 : decode cX9_findPair 7 = .ok (.bipush (-2), 2) := dec_s1 oX9_findPair (of16 _) 254 rfl (sg8n (k := 2) rfl) rfl
theorem dX9_findPair_9 : decode cX9_findPair 9 = .ok (.putfield 89, 3) := dec_2 oX9_findPair (of181 _) 0 89 rfl rfl
theorem dX9_init_0 : decode cX9_init 0 = .ok (.aload_n 0, 1) := dec_0 oX9_init (of42 _) rfl
theorem dX9_init_1 : decode cX9_init 1 = .ok (.invokespecial 3, 3) := dec_2 oX9_init (of183 _) 0 3 rfl rfl
theorem dX9_init_10 : decode cX9_init 10 = .ok (.putfield 9, 3) := dec_2 oX9_init (of181 _) 0 9 rfl rfl
theorem dX9_init_13 : decode cX9_init 13 = .ok (.aload_n 0, 1) := dec_0 oX9_init (of42 _) rfl
theorem dX9_init_14 : decode cX9_init 14 = .ok (.sipush 160, 3) := dec_s2 oX9_init (of17 _) 0 160 rfl (sg16p rfl) rfl
theorem dX9_init_17 : decode cX9_init 17 = .ok (.newarray .boolean, 2) := by decide +kernel
theorem dX9_init_19 : decode cX9_init 19 = .ok (.putfield 15, 3) := dec_2 oX9_init (of181 _) 0 15 rfl rfl
theorem dX9_init_22 : decode cX9_init 22 = .ok (.aload_n 0, 1) := dec_0 oX9_init (of42 _) rfl
theorem dX9_init_23 : decode cX9_init 23 = .ok (.aload_n 1, 1) := dec_0 oX9_init (of43 _) rfl
theorem dX9_init_24 : decode cX9_init 24 = .ok (.putfield 19, 3) := dec_2 oX9_init (of181 _) 0 19 rfl rfl
theorem dX9_init_27 : decode cX9_init 27 = .ok (.aload_n 0, 1) := dec_0 oX9_init (of42 _) rfl
theorem dX9_init_28 : decode cX9_init 28 = .ok (.aload_n 1, 1) := dec_0 oX9_init (of43 _) rfl
theorem dX9_init_29 : decode cX9_init 29 = .ok (.getfield 23, 3) := dec_2 oX9_init (of180 _) 0 23 rfl rfl
theorem dX9_init_32 : decode cX9_init 32 = .ok (.putfield 29, 3) := dec_2 oX9_init (of181 _) 0 29 rfl rfl
theorem dX9_init_35 : decode cX9_init 35 = .ok (.return_, 1) := dec_0 oX9_init (of177 _) rfl
theorem dX9_init_4 : decode cX9_init 4 = .ok (.aload_n 0, 1) := dec_0 oX9_init (of42 _) rfl
theorem dX9_init_5 : decode cX9_init 5 = .ok (.sipush 2560, 3) := dec_s2 oX9_init (of17 _) 10 0 rfl (sg16p rfl) rfl
theorem dX9_init_8 : decode cX9_init 8 = .ok (.newarray .int, 2) := by decide +kernel
