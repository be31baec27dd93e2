theorem dX12_cover_9 : decode cX12_cover 9 = .ok (.ifCond .ge 5, 3) := by decide +kernel
theorem dX12_cover_12 : decode cX12_cover 12 = .ok (.iconst (-1), 1) := by decide +kernel
theorem dX12_cover_13 : decode cX12_cover 13 = .ok (.ireturn, 1) := by decide +kernel
theorem dX12_cover_14 : decode cX12_cover 14 = .ok (.aload_n 0, 1) := by decide +kernel
theorem dX12_cover_15 : decode cX12_cover 15 = .ok (.iload_n 1, 1) := by decide +kernel
theorem dX12_cover_16 : decode cX12_cover 16 = .ok (.invokevirtual 372, 3) := by decide +kernel
theorem dX12_cover_19 : decode cX12_cover 19 = .ok (.iconst 0, 1) := by decide +kernel
theorem dX12_cover_20 : decode cX12_cover 20 = .ok (.istore_n 3, 1) := by decide +kernel
theorem dX12_cover_21 : decode cX12_cover 21 = .ok (.iconst 0, 1) := by decide +kernel
theorem dX12_cover_22 : decode cX12_cover 22 = .ok (.istore 4, 2) := by decide +kernel
theorem dX12_cover_24 : decode cX12_cover 24 = .ok (.iload 4, 2) := by decide +kernel
theorem dX12_cover_26 : decode cX12_cover 26 = .ok (.aload_n 0, 1) := by decide +kernel
theorem dX12_cover_27 : decode cX12_cover 27 = .ok (.getfield 70, 3) := by decide +kernel
theorem dX12_cover_30 : decode cX12_cover 30 = .ok (.iconst 0, 1) := by decide +kernel
theorem dX12_cover_31 : decode cX12_cover 31 = .ok (.iaload, 1) := by decide +kernel
theorem dX12_cover_32 : decode cX12_cover 32 = .ok (.if_icmp .ge 81, 3) := by decide +kernel
theorem dX12_cover_35 : decode cX12_cover 35 = .ok (.iconst 0, 1) := by decide +kernel
theorem dX12_cover_36 : decode cX12_cover 36 = .ok (.istore 5, 2) := by decide +kernel
theorem dX12_cover_38 : decode cX12_cover 38 = .ok (.iconst 0, 1) := by decide +kernel
theorem dX12_cover_39 : decode cX12_cover 39 = .ok (.istore 6, 2) := by decide +kernel
theorem dX12_cover_41 : decode cX12_cover 41 = .ok (.iload 6, 2) := by decide +kernel
theorem dX12_cover_43 : decode cX12_cover 43 = .ok (.aload_n 0, 1) := by decide +kernel
theorem dX12_cover_44 : decode cX12_cover 44 = .ok (.getfield 366, 3) := by decide +kernel
theorem dX12_cover_47 : decode cX12_cover 47 = .ok (.if_icmp .ge 52, 3) := by decide +kernel
theorem dX12_cover_50 : decode cX12_cover 50 = .ok (.aload_n 0, 1) := by decide +kernel
theorem dX12_cover_51 : decode cX12_cover 51 = .ok (.getfield 91, 3) := by decide +kernel
theorem dX12_cover_54 : decode cX12_cover 54 = .ok (.aload_n 0, 1) := by decide +kernel
theorem dX12_cover_55 : decode cX12_cover 55 = .ok (.getfield 97, 3) := by decide +kernel
theorem dX12_cover_58 : decode cX12_cover 58 = .ok (.iload 6, 2) := by decide +kernel
theorem dX12_cover_60 : decode cX12_cover 60 = .ok (.iaload, 1) := by decide +kernel
theorem dX12_cover_61 : decode cX12_cover 61 = .ok (.iaload, 1) := by decide +kernel
theorem dX12_cover_62 : decode cX12_cover 62 = .ok (.iload_n 2, 1) := by decide +kernel
theorem dX12_cover_63 : decode cX12_cover 63 = .ok (.if_icmp .gt 30, 3) := by decide +kernel
theorem dX12_cover_66 : decode cX12_cover 66 = .ok (.iload 4, 2) := by decide +kernel
theorem dX12_cover_68 : decode cX12_cover 68 = .ok (.aload_n 0, 1) := by decide +kernel
theorem dX12_cover_69 : decode cX12_cover 69 = .ok (.getfield 97, 3) := by decide +kernel
theorem dX12_cover_72 : decode cX12_cover 72 = .ok (.iload 6, 2) := by decide +kernel
theorem dX12_cover_74 : decode cX12_cover 74 = .ok (.iaload, 1) := by decide +kernel
theorem dX12_cover_75 : decode cX12_cover 75 = .ok (.isub, 1) := by decide +kernel
theorem dX12_cover_76 : decode cX12_cover 76 = .ok (.iconst 0, 1) := by decide +kernel
theorem dX12_cover_77 : decode cX12_cover 77 = .ok (.aload_n 0, 1) := by decide +kernel
theorem dX12_cover_78 : decode cX12_cover 78 = .ok (.iload_n 1, 1) := by decide +kernel
theorem dX12_cover_79 : decode cX12_cover 79 = .ok (.invokevirtual 254, 3) := by decide +kernel
theorem dX12_cover_82 : decode cX12_cover 82 = .ok (.iconst 1, 1) := by decide +kernel
theorem dX12_cover_83 : decode cX12_cover 83 = .ok (.isub, 1) := by decide +kernel
theorem dX12_cover_84 : decode cX12_cover 84 = .ok (.invokestatic 244, 3) := by decide +kernel
theorem dX12_cover_87 : decode cX12_cover 87 = .ok (.ifCond .eq 6, 3) := by decide +kernel
theorem dX12_cover_90 : decode cX12_cover 90 = .ok (.iconst 1, 1) := by decide +kernel
theorem dX12_cover_91 : decode cX12_cover 91 = .ok (.istore 5, 2) := by decide +kernel
theorem dX12_cover_93 : decode cX12_cover 93 = .ok (.iinc 6 1, 3) := by decide +kernel
theorem dX12_cover_96 : decode cX12_cover 96 = .ok (.goto (-55), 3) := by decide +kernel
theorem dX12_cover_99 : decode cX12_cover 99 = .ok (.iload 5, 2) := by decide +kernel
theorem dX12_cover_101 : decode cX12_cover 101 = .ok (.ifCond .eq 6, 3) := by decide +kernel
theorem dX12_cover_104 : decode cX12_cover 104 = .ok (.iinc 3 1, 3) := by decide +kernel
theorem dX12_cover_107 : decode cX12_cover 107 = .ok (.iinc 4 1, 3) := by decide +kernel
theorem dX12_cover_110 : decode cX12_cover 110 = .ok (.goto (-86), 3) := by decide +kernel
theorem dX12_cover_113 : decode cX12_cover 113 = .ok (.iload_n 3, 1) := by decide +kernel
theorem dX12_cover_114 : decode cX12_cover 114 = .ok (.ireturn, 1) := by decide +kernel
theorem dX12_rankOf_0 : decode cX12_rankOf 0 = .ok (.iconst 0, 1) := by decide +kernel
theorem dX12_rankOf_1 : decode cX12_rankOf 1 = .ok (.istore_n 2, 1) := by decide +kernel
theorem dX12_rankOf_2 : decode cX12_rankOf 2 = .ok (.iconst 0, 1) := by decide +kernel
theorem dX12_rankOf_3 : decode cX12_rankOf 3 = .ok (.istore_n 3, 1) := by decide +kernel
theorem dX12_rankOf_4 : decode cX12_rankOf 4 = .ok (.iload_n 3, 1) := by decide +kernel
theorem dX12_rankOf_5 : decode cX12_rankOf 5 = .ok (.sipush 160, 3) := by decide +kernel
theorem dX12_rankOf_8 : decode cX12_rankOf 8 = .ok (.if_icmp .ge 56, 3) := by decide +kernel
theorem dX12_rankOf_11 : decode cX12_rankOf 11 = .ok (.aload_n 0, 1) := by decide +kernel
theorem dX12_rankOf_12 : decode cX12_rankOf 12 = .ok (.getfield 91, 3) := by decide +kernel
theorem dX12_rankOf_15 : decode cX12_rankOf 15 = .ok (.iload_n 3, 1) := by decide +kernel
theorem dX12_rankOf_16 : decode cX12_rankOf 16 = .ok (.iaload, 1) := by decide +kernel
theorem dX12_rankOf_17 : decode cX12_rankOf 17 = .ok (.ifCond .lt 41, 3) := by decide +kernel
theorem dX12_rankOf_20 : decode cX12_rankOf 20 = .ok (.aload_n 0, 1) := by decide +kernel
theorem dX12_rankOf_21 : decode cX12_rankOf 21 = .ok (.getfield 91, 3) := by decide +kernel
theorem dX12_rankOf_24 : decode cX12_rankOf 24 = .ok (.iload_n 3, 1) := by decide +kernel
theorem dX12_rankOf_25 : decode cX12_rankOf 25 = .ok (.iaload, 1) := by decide +kernel
theorem dX12_rankOf_26 : decode cX12_rankOf 26 = .ok (.aload_n 0, 1) := by decide +kernel
theorem dX12_rankOf_27 : decode cX12_rankOf 27 = .ok (.getfield 91, 3) := by decide +kernel
theorem dX12_rankOf_30 : decode cX12_rankOf 30 = .ok (.iload_n 1, 1) := by decide +kernel
theorem dX12_rankOf_31 : decode cX12_rankOf 31 = .ok (.iaload, 1) := by decide +kernel
theorem dX12_rankOf_32 : decode cX12_rankOf 32 = .ok (.if_icmp .lt 23, 3) := by decide +kernel
theorem dX12_rankOf_35 : decode cX12_rankOf 35 = .ok (.aload_n 0, 1) := by decide +kernel
theorem dX12_rankOf_36 : decode cX12_rankOf 36 = .ok (.getfield 91, 3) := by decide +kernel
theorem dX12_rankOf_39 : decode cX12_rankOf 39 = .ok (.iload_n 3, 1) := by decide +kernel
theorem dX12_rankOf_40 : decode cX12_rankOf 40 = .ok (.iaload, 1) := by decide +kernel
theorem dX12_rankOf_41 : decode cX12_rankOf 41 = .ok (.aload_n 0, 1) := by decide +kernel
theorem dX12_rankOf_42 : decode cX12_rankOf 42 = .ok (.getfield 91, 3) := by decide +kernel
theorem dX12_rankOf_45 : decode cX12_rankOf 45 = .ok (.iload_n 1, 1) := by decide +kernel
theorem dX12_rankOf_46 : decode cX12_rankOf 46 = .ok (.iaload, 1) := by decide +kernel
theorem dX12_rankOf_47 : decode cX12_rankOf 47 = .ok (.if_icmp .ne 11, 3) := by decide +kernel
theorem dX12_rankOf_50 : decode cX12_rankOf 50 = .ok (.iload_n 3, 1) := by decide +kernel
theorem dX12_rankOf_51 : decode cX12_rankOf 51 = .ok (.iload_n 1, 1) := by decide +kernel
theorem dX12_rankOf_52 : decode cX12_rankOf 52 = .ok (.if_icmp .ge 6, 3) := by decide +kernel
theorem dX12_rankOf_55 : decode cX12_rankOf 55 = .ok (.iinc 2 1, 3) := by decide +kernel
theorem dX12_rankOf_58 : decode cX12_rankOf 58 = .ok (.iinc 3 1, 3) := by decide +kernel
theorem dX12_rankOf_61 : decode cX12_rankOf 61 = .ok (.goto (-57), 3) := by decide +kernel
theorem dX12_rankOf_64 : decode cX12_rankOf 64 = .ok (.iload_n 2, 1) := by decide +kernel
theorem dX12_rankOf_65 : decode cX12_rankOf 65 = .ok (.ireturn, 1) := by decide +kernel
theorem dX12_rank_0 : decode cX12_rank 0 = .ok (.aload_n 0, 1) := by decide +kernel
theorem dX12_rank_1 : decode cX12_rank 1 = .ok (.iload_n 1, 1) := by decide +kernel
theorem dX12_rank_2 : decode cX12_rank 2 = .ok (.iload_n 2, 1) := by decide +kernel
theorem dX12_rank_3 : decode cX12_rank 3 = .ok (.invokevirtual 342, 3) := by decide +kernel
theorem dX12_rank_6 : decode cX12_rank 6 = .ok (.ifCond .ne 5, 3) := by decide +kernel
theorem dX12_rank_9 : decode cX12_rank 9 = .ok (.iconst (-1), 1) := by decide +kernel
theorem dX12_rank_10 : decode cX12_rank 10 = .ok (.ireturn, 1) := by decide +kernel
theorem dX12_rank_11 : decode cX12_rank 11 = .ok (.aload_n 0, 1) := by decide +kernel
theorem dX12_rank_12 : decode cX12_rank 12 = .ok (.iload_n 1, 1) := by decide +kernel
theorem dX12_rank_13 : decode cX12_rank 13 = .ok (.invokevirtual 357, 3) := by decide +kernel
theorem dX12_rank_16 : decode cX12_rank 16 = .ok (.aload_n 0, 1) := by decide +kernel
theorem dX12_rank_17 : decode cX12_rank 17 = .ok (.iload_n 2, 1) := by decide +kernel
theorem dX12_rank_18 : decode cX12_rank 18 = .ok (.invokevirtual 375, 3) := by decide +kernel
theorem dX12_rank_21 : decode cX12_rank 21 = .ok (.ireturn, 1) := by decide +kernel
theorem dX12_kth_0 : decode cX12_kth 0 = .ok (.aload_n 0, 1) := by decide +kernel
theorem dX12_kth_1 : decode cX12_kth 1 = .ok (.iload_n 1, 1) := by decide +kernel
theorem dX12_kth_2 : decode cX12_kth 2 = .ok (.invokevirtual 251, 3) := by decide +kernel
theorem dX12_kth_5 : decode cX12_kth 5 = .ok (.ifCond .eq 16, 3) := by decide +kernel
theorem dX12_kth_8 : decode cX12_kth 8 = .ok (.iload_n 2, 1) := by decide +kernel
theorem dX12_kth_9 : decode cX12_kth 9 = .ok (.ifCond .lt 12, 3) := by decide +kernel
theorem dX12_kth_12 : decode cX12_kth 12 = .ok (.iload_n 3, 1) := by decide +kernel
theorem dX12_kth_13 : decode cX12_kth 13 = .ok (.iconst 0, 1) := by decide +kernel
theorem dX12_kth_14 : decode cX12_kth 14 = .ok (.iconst 1, 1) := by decide +kernel
theorem dX12_kth_15 : decode cX12_kth 15 = .ok (.invokestatic 244, 3) := by decide +kernel
theorem dX12_kth_18 : decode cX12_kth 18 = .ok (.ifCond .ne 5, 3) := by decide +kernel
theorem dX12_kth_21 : decode cX12_kth 21 = .ok (.iconst (-1), 1) := by decide +kernel
theorem dX12_kth_22 : decode cX12_kth 22 = .ok (.ireturn, 1) := by decide +kernel
theorem dX12_kth_23 : decode cX12_kth 23 = .ok (.aload_n 0, 1) := by decide +kernel
theorem dX12_kth_24 : decode cX12_kth 24 = .ok (.iload_n 1, 1) := by decide +kernel
theorem dX12_kth_25 : decode cX12_kth 25 = .ok (.invokevirtual 357, 3) := by decide +kernel
theorem dX12_kth_28 : decode cX12_kth 28 = .ok (.iconst 0, 1) := by decide +kernel
theorem dX12_kth_29 : decode cX12_kth 29 = .ok (.istore 4, 2) := by decide +kernel
theorem dX12_kth_31 : decode cX12_kth 31 = .ok (.iload 4, 2) := by decide +kernel
theorem dX12_kth_33 : decode cX12_kth 33 = .ok (.sipush 160, 3) := by decide +kernel
theorem dX12_kth_36 : decode cX12_kth 36 = .ok (.if_icmp .ge 46, 3) := by decide +kernel
theorem dX12_kth_39 : decode cX12_kth 39 = .ok (.aload_n 0, 1) := by decide +kernel
theorem dX12_kth_40 : decode cX12_kth 40 = .ok (.getfield 91, 3) := by decide +kernel
theorem dX12_kth_43 : decode cX12_kth 43 = .ok (.iload 4, 2) := by decide +kernel
theorem dX12_kth_45 : decode cX12_kth 45 = .ok (.iaload, 1) := by decide +kernel
theorem dX12_kth_46 : decode cX12_kth 46 = .ok (.ifCond .lt 30, 3) := by decide +kernel
theorem dX12_kth_49 : decode cX12_kth 49 = .ok (.aload_n 0, 1) := by decide +kernel
theorem dX12_kth_50 : decode cX12_kth 50 = .ok (.iload 4, 2) := by decide +kernel
theorem dX12_kth_52 : decode cX12_kth 52 = .ok (.invokevirtual 375, 3) := by decide +kernel
theorem dX12_kth_55 : decode cX12_kth 55 = .ok (.iload_n 2, 1) := by decide +kernel
theorem dX12_kth_56 : decode cX12_kth 56 = .ok (.if_icmp .ne 20, 3) := by decide +kernel
theorem dX12_kth_59 : decode cX12_kth 59 = .ok (.iload_n 3, 1) := by decide +kernel
theorem dX12_kth_60 : decode cX12_kth 60 = .ok (.ifCond .ne 8, 3) := by decide +kernel
theorem dX12_kth_63 : decode cX12_kth 63 = .ok (.iload 4, 2) := by decide +kernel
theorem dX12_kth_65 : decode cX12_kth 65 = .ok (.goto 10, 3) := by decide +kernel
theorem dX12_kth_68 : decode cX12_kth 68 = .ok (.aload_n 0, 1) := by decide +kernel
theorem dX12_kth_69 : decode cX12_kth 69 = .ok (.getfield 91, 3) := by decide +kernel
theorem dX12_kth_72 : decode cX12_kth 72 = .ok (.iload 4, 2) := by decide +kernel
theorem dX12_kth_74 : decode cX12_kth 74 = .ok (.iaload, 1) := by decide +kernel
theorem dX12_kth_75 : decode cX12_kth 75 = .ok (.ireturn, 1) := by decide +kernel
theorem dX12_kth_76 : decode cX12_kth 76 = .ok (.iinc 4 1, 3) := by decide +kernel
theorem dX12_kth_79 : decode cX12_kth 79 = .ok (.goto (-48), 3) := by decide +kernel
theorem dX12_kth_82 : decode cX12_kth 82 = .ok (.bipush (-2), 2) := by decide +kernel
theorem dX12_kth_84 : decode cX12_kth 84 = .ok (.ireturn, 1) := by decide +kernel
theorem dX12_greater_0 : decode cX12_greater 0 = .ok (.iload_n 0, 1) := by decide +kernel
theorem dX12_greater_1 : decode cX12_greater 1 = .ok (.iload_n 1, 1) := by decide +kernel
theorem dX12_greater_2 : decode cX12_greater 2 = .ok (.if_icmp .le 7, 3) := by decide +kernel
theorem dX12_greater_5 : decode cX12_greater 5 = .ok (.iload_n 0, 1) := by decide +kernel
theorem dX12_greater_6 : decode cX12_greater 6 = .ok (.goto 4, 3) := by decide +kernel
theorem dX12_greater_9 : decode cX12_greater 9 = .ok (.iload_n 1, 1) := by decide +kernel
theorem dX12_greater_10 : decode cX12_greater 10 = .ok (.ireturn, 1) := by decide +kernel
theorem dX12_slack_0 : decode cX12_slack 0 = .ok (.aload_n 0, 1) := by decide +kernel
theorem dX12_slack_1 : decode cX12_slack 1 = .ok (.iload_n 1, 1) := by decide +kernel
theorem dX12_slack_2 : decode cX12_slack 2 = .ok (.invokevirtual 251, 3) := by decide +kernel
theorem dX12_slack_5 : decode cX12_slack 5 = .ok (.ifCond .ne 5, 3) := by decide +kernel
theorem dX12_slack_8 : decode cX12_slack 8 = .ok (.iconst (-1), 1) := by decide +kernel
theorem dX12_slack_9 : decode cX12_slack 9 = .ok (.ireturn, 1) := by decide +kernel
theorem dX12_slack_10 : decode cX12_slack 10 = .ok (.aload_n 0, 1) := by decide +kernel
theorem dX12_slack_11 : decode cX12_slack 11 = .ok (.invokevirtual 323, 3) := by decide +kernel
theorem dX12_slack_14 : decode cX12_slack 14 = .ok (.iconst 0, 1) := by decide +kernel
theorem dX12_slack_15 : decode cX12_slack 15 = .ok (.istore_n 2, 1) := by decide +kernel
theorem dX12_slack_16 : decode cX12_slack 16 = .ok (.iconst 0, 1) := by decide +kernel
theorem dX12_slack_17 : decode cX12_slack 17 = .ok (.istore_n 3, 1) := by decide +kernel
theorem dX12_slack_18 : decode cX12_slack 18 = .ok (.iload_n 3, 1) := by decide +kernel
theorem dX12_slack_19 : decode cX12_slack 19 = .ok (.sipush 160, 3) := by decide +kernel
theorem dX12_slack_22 : decode cX12_slack 22 = .ok (.if_icmp .ge 53, 3) := by decide +kernel
theorem dX12_slack_25 : decode cX12_slack 25 = .ok (.aload_n 0, 1) := by decide +kernel
theorem dX12_slack_26 : decode cX12_slack 26 = .ok (.iload_n 1, 1) := by decide +kernel
theorem dX12_slack_27 : decode cX12_slack 27 = .ok (.iload_n 3, 1) := by decide +kernel
theorem dX12_slack_28 : decode cX12_slack 28 = .ok (.invokevirtual 342, 3) := by decide +kernel
theorem dX12_slack_31 : decode cX12_slack 31 = .ok (.ifCond .ne 6, 3) := by decide +kernel
theorem dX12_slack_34 : decode cX12_slack 34 = .ok (.goto 35, 3) := by decide +kernel
theorem dX12_slack_37 : decode cX12_slack 37 = .ok (.aload_n 0, 1) := by decide +kernel
theorem dX12_slack_38 : decode cX12_slack 38 = .ok (.iload_n 1, 1) := by decide +kernel
theorem dX12_slack_39 : decode cX12_slack 39 = .ok (.iload_n 3, 1) := by decide +kernel
theorem dX12_slack_40 : decode cX12_slack 40 = .ok (.invokevirtual 345, 3) := by decide +kernel
theorem dX12_slack_43 : decode cX12_slack 43 = .ok (.istore 4, 2) := by decide +kernel
theorem dX12_slack_45 : decode cX12_slack 45 = .ok (.iload_n 2, 1) := by decide +kernel
theorem dX12_slack_46 : decode cX12_slack 46 = .ok (.iload 4, 2) := by decide +kernel
theorem dX12_slack_48 : decode cX12_slack 48 = .ok (.aload_n 0, 1) := by decide +kernel
theorem dX12_slack_49 : decode cX12_slack 49 = .ok (.invokevirtual 314, 3) := by decide +kernel
theorem dX12_slack_52 : decode cX12_slack 52 = .ok (.aload_n 0, 1) := by decide +kernel
theorem dX12_slack_53 : decode cX12_slack 53 = .ok (.invokevirtual 308, 3) := by decide +kernel
theorem dX12_slack_56 : decode cX12_slack 56 = .ok (.aload_n 0, 1) := by decide +kernel
theorem dX12_slack_57 : decode cX12_slack 57 = .ok (.invokevirtual 317, 3) := by decide +kernel
theorem dX12_slack_60 : decode cX12_slack 60 = .ok (.invokestatic 378, 3) := by decide +kernel
theorem dX12_slack_63 : decode cX12_slack 63 = .ok (.invokestatic 378, 3) := by decide +kernel
theorem dX12_slack_66 : decode cX12_slack 66 = .ok (.isub, 1) := by decide +kernel
theorem dX12_slack_67 : decode cX12_slack 67 = .ok (.iadd, 1) := by decide +kernel
theorem dX12_slack_68 : decode cX12_slack 68 = .ok (.istore_n 2, 1) := by decide +kernel
theorem dX12_slack_69 : decode cX12_slack 69 = .ok (.iinc 3 1, 3) := by decide +kernel
theorem dX12_slack_72 : decode cX12_slack 72 = .ok (.goto (-54), 3) := by decide +kernel
theorem dX12_slack_75 : decode cX12_slack 75 = .ok (.iload_n 2, 1) := by decide +kernel
theorem dX12_slack_76 : decode cX12_slack 76 = .ok (.ireturn, 1) := by decide +kernel
theorem dX12_turns_0 : decode cX12_turns 0 = .ok (.aload_n 0, 1) := by decide +kernel
theorem dX12_turns_1 : decode cX12_turns 1 = .ok (.iload_n 1, 1) := by decide +kernel
theorem dX12_turns_2 : decode cX12_turns 2 = .ok (.invokevirtual 251, 3) := by decide +kernel
theorem dX12_turns_5 : decode cX12_turns 5 = .ok (.ifCond .ne 5, 3) := by decide +kernel
theorem dX12_turns_8 : decode cX12_turns 8 = .ok (.iconst (-1), 1) := by decide +kernel
theorem dX12_turns_9 : decode cX12_turns 9 = .ok (.ireturn, 1) := by decide +kernel
theorem dX12_turns_10 : decode cX12_turns 10 = .ok (.aload_n 0, 1) := by decide +kernel
theorem dX12_turns_11 : decode cX12_turns 11 = .ok (.iload_n 1, 1) := by decide +kernel
theorem dX12_turns_12 : decode cX12_turns 12 = .ok (.invokevirtual 357, 3) := by decide +kernel
theorem dX12_turns_15 : decode cX12_turns 15 = .ok (.iconst (-1), 1) := by decide +kernel
theorem dX12_turns_16 : decode cX12_turns 16 = .ok (.istore_n 2, 1) := by decide +kernel
theorem dX12_turns_17 : decode cX12_turns 17 = .ok (.iconst 0, 1) := by decide +kernel
theorem dX12_turns_18 : decode cX12_turns 18 = .ok (.istore_n 3, 1) := by decide +kernel
theorem dX12_turns_19 : decode cX12_turns 19 = .ok (.iconst 0, 1) := by decide +kernel
theorem dX12_turns_20 : decode cX12_turns 20 = .ok (.istore 4, 2) := by decide +kernel
theorem dX12_turns_22 : decode cX12_turns 22 = .ok (.iconst 0, 1) := by decide +kernel
theorem dX12_turns_23 : decode cX12_turns 23 = .ok (.istore 5, 2) := by decide +kernel
theorem dX12_turns_25 : decode cX12_turns 25 = .ok (.iload 5, 2) := by decide +kernel
theorem dX12_turns_27 : decode cX12_turns 27 = .ok (.sipush 160, 3) := by decide +kernel
theorem dX12_turns_30 : decode cX12_turns 30 = .ok (.if_icmp .ge 71, 3) := by decide +kernel
theorem dX12_turns_33 : decode cX12_turns 33 = .ok (.aload_n 0, 1) := by decide +kernel
theorem dX12_turns_34 : decode cX12_turns 34 = .ok (.getfield 91, 3) := by decide +kernel
theorem dX12_turns_37 : decode cX12_turns 37 = .ok (.iload 5, 2) := by decide +kernel
theorem dX12_turns_39 : decode cX12_turns 39 = .ok (.iaload, 1) := by decide +kernel
theorem dX12_turns_40 : decode cX12_turns 40 = .ok (.ifCond .ge 6, 3) := by decide +kernel
theorem dX12_turns_43 : decode cX12_turns 43 = .ok (.goto 52, 3) := by decide +kernel
theorem dX12_turns_46 : decode cX12_turns 46 = .ok (.iload_n 2, 1) := by decide +kernel
theorem dX12_turns_47 : decode cX12_turns 47 = .ok (.ifCond .lt 16, 3) := by decide +kernel
theorem dX12_turns_50 : decode cX12_turns 50 = .ok (.aload_n 0, 1) := by decide +kernel
theorem dX12_turns_51 : decode cX12_turns 51 = .ok (.getfield 91, 3) := by decide +kernel
theorem dX12_turns_54 : decode cX12_turns 54 = .ok (.iload 5, 2) := by decide +kernel
theorem dX12_turns_56 : decode cX12_turns 56 = .ok (.iaload, 1) := by decide +kernel
theorem dX12_turns_57 : decode cX12_turns 57 = .ok (.iload_n 2, 1) := by decide +kernel
theorem dX12_turns_58 : decode cX12_turns 58 = .ok (.if_icmp .ge 5, 3) := by decide +kernel
theorem dX12_turns_61 : decode cX12_turns 61 = .ok (.iconst 1, 1) := by decide +kernel
theorem dX12_turns_62 : decode cX12_turns 62 = .ok (.istore_n 3, 1) := by decide +kernel
theorem dX12_turns_63 : decode cX12_turns 63 = .ok (.iload_n 2, 1) := by decide +kernel
theorem dX12_turns_64 : decode cX12_turns 64 = .ok (.ifCond .lt 23, 3) := by decide +kernel
theorem dX12_turns_67 : decode cX12_turns 67 = .ok (.aload_n 0, 1) := by decide +kernel
theorem dX12_turns_68 : decode cX12_turns 68 = .ok (.getfield 91, 3) := by decide +kernel
theorem dX12_turns_71 : decode cX12_turns 71 = .ok (.iload 5, 2) := by decide +kernel
theorem dX12_turns_73 : decode cX12_turns 73 = .ok (.iaload, 1) := by decide +kernel
theorem dX12_turns_74 : decode cX12_turns 74 = .ok (.iload_n 2, 1) := by decide +kernel
theorem dX12_turns_75 : decode cX12_turns 75 = .ok (.if_icmp .le 12, 3) := by decide +kernel
theorem dX12_turns_78 : decode cX12_turns 78 = .ok (.iload_n 3, 1) := by decide +kernel
theorem dX12_turns_79 : decode cX12_turns 79 = .ok (.ifCond .eq 6, 3) := by decide +kernel
theorem dX12_turns_82 : decode cX12_turns 82 = .ok (.iinc 4 1, 3) := by decide +kernel
theorem dX12_turns_85 : decode cX12_turns 85 = .ok (.iconst 0, 1) := by decide +kernel
theorem dX12_turns_86 : decode cX12_turns 86 = .ok (.istore_n 3, 1) := by decide +kernel
theorem dX12_turns_87 : decode cX12_turns 87 = .ok (.aload_n 0, 1) := by decide +kernel
theorem dX12_turns_88 : decode cX12_turns 88 = .ok (.getfield 91, 3) := by decide +kernel
theorem dX12_turns_91 : decode cX12_turns 91 = .ok (.iload 5, 2) := by decide +kernel
theorem dX12_turns_93 : decode cX12_turns 93 = .ok (.iaload, 1) := by decide +kernel
theorem dX12_turns_94 : decode cX12_turns 94 = .ok (.istore_n 2, 1) := by decide +kernel
theorem dX12_turns_95 : decode cX12_turns 95 = .ok (.iinc 5 1, 3) := by decide +kernel
theorem dX12_turns_98 : decode cX12_turns 98 = .ok (.goto (-73), 3) := by decide +kernel
theorem dX12_turns_101 : decode cX12_turns 101 = .ok (.iload 4, 2) := by decide +kernel
theorem dX12_turns_103 : decode cX12_turns 103 = .ok (.ireturn, 1) := by decide +kernel
theorem dX12_fired_0 : decode cX12_fired 0 = .ok (.iload_n 1, 1) := by decide +kernel
theorem dX12_fired_1 : decode cX12_fired 1 = .ok (.ifCond .ge 5, 3) := by decide +kernel
theorem dX12_fired_4 : decode cX12_fired 4 = .ok (.iconst (-1), 1) := by decide +kernel
theorem dX12_fired_5 : decode cX12_fired 5 = .ok (.ireturn, 1) := by decide +kernel
theorem dX12_fired_6 : decode cX12_fired 6 = .ok (.aload_n 0, 1) := by decide +kernel
theorem dX12_fired_7 : decode cX12_fired 7 = .ok (.invokevirtual 323, 3) := by decide +kernel
theorem dX12_fired_10 : decode cX12_fired 10 = .ok (.iconst 0, 1) := by decide +kernel
theorem dX12_fired_11 : decode cX12_fired 11 = .ok (.istore_n 2, 1) := by decide +kernel
theorem dX12_fired_12 : decode cX12_fired 12 = .ok (.iconst 0, 1) := by decide +kernel
theorem dX12_fired_13 : decode cX12_fired 13 = .ok (.istore_n 3, 1) := by decide +kernel
theorem dX12_fired_14 : decode cX12_fired 14 = .ok (.iload_n 3, 1) := by decide +kernel
theorem dX12_fired_15 : decode cX12_fired 15 = .ok (.aload_n 0, 1) := by decide +kernel
theorem dX12_fired_16 : decode cX12_fired 16 = .ok (.getfield 49, 3) := by decide +kernel
theorem dX12_fired_19 : decode cX12_fired 19 = .ok (.aload_n 0, 1) := by decide +kernel
theorem dX12_fired_20 : decode cX12_fired 20 = .ok (.getfield 197, 3) := by decide +kernel
theorem dX12_fired_23 : decode cX12_fired 23 = .ok (.iaload, 1) := by decide +kernel
theorem dX12_fired_24 : decode cX12_fired 24 = .ok (.if_icmp .ge 50, 3) := by decide +kernel
theorem dX12_fired_27 : decode cX12_fired 27 = .ok (.aload_n 0, 1) := by decide +kernel
theorem dX12_fired_28 : decode cX12_fired 28 = .ok (.getfield 70, 3) := by decide +kernel
theorem dX12_fired_31 : decode cX12_fired 31 = .ok (.iconst 0, 1) := by decide +kernel
theorem dX12_fired_32 : decode cX12_fired 32 = .ok (.iaload, 1) := by decide +kernel
theorem dX12_fired_33 : decode cX12_fired 33 = .ok (.aload_n 0, 1) := by decide +kernel
theorem dX12_fired_34 : decode cX12_fired 34 = .ok (.iload_n 3, 1) := by decide +kernel
theorem dX12_fired_35 : decode cX12_fired 35 = .ok (.invokevirtual 254, 3) := by decide +kernel
theorem dX12_fired_38 : decode cX12_fired 38 = .ok (.isub, 1) := by decide +kernel
theorem dX12_fired_39 : decode cX12_fired 39 = .ok (.istore 4, 2) := by decide +kernel
theorem dX12_fired_41 : decode cX12_fired 41 = .ok (.aload_n 0, 1) := by decide +kernel
theorem dX12_fired_42 : decode cX12_fired 42 = .ok (.iload_n 3, 1) := by decide +kernel
theorem dX12_fired_43 : decode cX12_fired 43 = .ok (.iload 4, 2) := by decide +kernel
theorem dX12_fired_45 : decode cX12_fired 45 = .ok (.invokevirtual 342, 3) := by decide +kernel
theorem dX12_fired_48 : decode cX12_fired 48 = .ok (.ifCond .eq 20, 3) := by decide +kernel
theorem dX12_fired_51 : decode cX12_fired 51 = .ok (.aload_n 0, 1) := by decide +kernel
theorem dX12_fired_52 : decode cX12_fired 52 = .ok (.iload_n 3, 1) := by decide +kernel
theorem dX12_fired_53 : decode cX12_fired 53 = .ok (.iload 4, 2) := by decide +kernel
theorem dX12_fired_55 : decode cX12_fired 55 = .ok (.invokevirtual 345, 3) := by decide +kernel
theorem dX12_fired_58 : decode cX12_fired 58 = .ok (.iload_n 1, 1) := by decide +kernel
theorem dX12_fired_59 : decode cX12_fired 59 = .ok (.if_icmp .gt 9, 3) := by decide +kernel
theorem dX12_fired_62 : decode cX12_fired 62 = .ok (.iload_n 2, 1) := by decide +kernel
theorem dX12_fired_63 : decode cX12_fired 63 = .ok (.iconst 1, 1) := by decide +kernel
theorem dX12_fired_64 : decode cX12_fired 64 = .ok (.iload_n 3, 1) := by decide +kernel
theorem dX12_fired_65 : decode cX12_fired 65 = .ok (.ishl, 1) := by decide +kernel
theorem dX12_fired_66 : decode cX12_fired 66 = .ok (.ior, 1) := by decide +kernel
theorem dX12_fired_67 : decode cX12_fired 67 = .ok (.istore_n 2, 1) := by decide +kernel
theorem dX12_fired_68 : decode cX12_fired 68 = .ok (.iinc 3 1, 3) := by decide +kernel
theorem dX12_fired_71 : decode cX12_fired 71 = .ok (.goto (-57), 3) := by decide +kernel
theorem dX12_fired_74 : decode cX12_fired 74 = .ok (.iload_n 2, 1) := by decide +kernel
theorem dX12_fired_75 : decode cX12_fired 75 = .ok (.ireturn, 1) := by decide +kernel
theorem dX12_whose_0 : decode cX12_whose 0 = .ok (.iload_n 2, 1) := by decide +kernel
theorem dX12_whose_1 : decode cX12_whose 1 = .ok (.iconst 2, 1) := by decide +kernel
theorem dX12_whose_2 : decode cX12_whose 2 = .ok (.bipush 16, 2) := by decide +kernel
theorem dX12_whose_4 : decode cX12_whose 4 = .ok (.invokestatic 244, 3) := by decide +kernel
theorem dX12_whose_7 : decode cX12_whose 7 = .ok (.ifCond .eq 12, 3) := by decide +kernel
theorem dX12_whose_10 : decode cX12_whose 10 = .ok (.aload_n 0, 1) := by decide +kernel
theorem dX12_whose_11 : decode cX12_whose 11 = .ok (.iload_n 1, 1) := by decide +kernel
theorem dX12_whose_12 : decode cX12_whose 12 = .ok (.iload_n 2, 1) := by decide +kernel
theorem dX12_whose_13 : decode cX12_whose 13 = .ok (.invokevirtual 257, 3) := by decide +kernel
theorem dX12_whose_16 : decode cX12_whose 16 = .ok (.ifCond .ne 5, 3) := by decide +kernel
theorem dX12_whose_19 : decode cX12_whose 19 = .ok (.iconst (-1), 1) := by decide +kernel
theorem dX12_whose_20 : decode cX12_whose 20 = .ok (.ireturn, 1) := by decide +kernel
theorem dX12_whose_21 : decode cX12_whose 21 = .ok (.aload_n 0, 1) := by decide +kernel
theorem dX12_whose_22 : decode cX12_whose 22 = .ok (.invokevirtual 323, 3) := by decide +kernel
theorem dX12_whose_25 : decode cX12_whose 25 = .ok (.bipush (-2), 2) := by decide +kernel
theorem dX12_whose_27 : decode cX12_whose 27 = .ok (.istore_n 3, 1) := by decide +kernel
theorem dX12_whose_28 : decode cX12_whose 28 = .ok (.iconst 0, 1) := by decide +kernel
theorem dX12_whose_29 : decode cX12_whose 29 = .ok (.istore 4, 2) := by decide +kernel
theorem dX12_whose_31 : decode cX12_whose 31 = .ok (.iconst 0, 1) := by decide +kernel
theorem dX12_whose_32 : decode cX12_whose 32 = .ok (.istore 5, 2) := by decide +kernel
theorem dX12_whose_34 : decode cX12_whose 34 = .ok (.iload 5, 2) := by decide +kernel
theorem dX12_whose_36 : decode cX12_whose 36 = .ok (.aload_n 0, 1) := by decide +kernel
theorem dX12_whose_37 : decode cX12_whose 37 = .ok (.getfield 49, 3) := by decide +kernel
theorem dX12_whose_40 : decode cX12_whose 40 = .ok (.aload_n 0, 1) := by decide +kernel
theorem dX12_whose_41 : decode cX12_whose 41 = .ok (.getfield 197, 3) := by decide +kernel
theorem dX12_whose_44 : decode cX12_whose 44 = .ok (.iaload, 1) := by decide +kernel
theorem dX12_whose_45 : decode cX12_whose 45 = .ok (.if_icmp .ge 52, 3) := by decide +kernel
theorem dX12_whose_48 : decode cX12_whose 48 = .ok (.aload_n 0, 1) := by decide +kernel
theorem dX12_whose_49 : decode cX12_whose 49 = .ok (.iload 5, 2) := by decide +kernel
theorem dX12_whose_51 : decode cX12_whose 51 = .ok (.invokevirtual 254, 3) := by decide +kernel
theorem dX12_whose_54 : decode cX12_whose 54 = .ok (.iload_n 2, 1) := by decide +kernel
theorem dX12_whose_55 : decode cX12_whose 55 = .ok (.if_icmp .eq 6, 3) := by decide +kernel
theorem dX12_whose_58 : decode cX12_whose 58 = .ok (.goto 33, 3) := by decide +kernel
theorem dX12_whose_61 : decode cX12_whose 61 = .ok (.aload_n 0, 1) := by decide +kernel
theorem dX12_whose_62 : decode cX12_whose 62 = .ok (.iload 5, 2) := by decide +kernel
theorem dX12_whose_64 : decode cX12_whose 64 = .ok (.iload_n 1, 1) := by decide +kernel
theorem dX12_whose_65 : decode cX12_whose 65 = .ok (.invokevirtual 345, 3) := by decide +kernel
theorem dX12_whose_68 : decode cX12_whose 68 = .ok (.istore 6, 2) := by decide +kernel
theorem dX12_whose_70 : decode cX12_whose 70 = .ok (.iload_n 3, 1) := by decide +kernel
theorem dX12_whose_71 : decode cX12_whose 71 = .ok (.ifCond .lt 13, 3) := by decide +kernel
theorem dX12_whose_74 : decode cX12_whose 74 = .ok (.iload 6, 2) := by decide +kernel
theorem dX12_whose_76 : decode cX12_whose 76 = .ok (.iload 4, 2) := by decide +kernel
theorem dX12_whose_78 : decode cX12_whose 78 = .ok (.if_icmp .lt 6, 3) := by decide +kernel
theorem dX12_whose_81 : decode cX12_whose 81 = .ok (.goto 10, 3) := by decide +kernel
theorem dX12_whose_84 : decode cX12_whose 84 = .ok (.iload 5, 2) := by decide +kernel
theorem dX12_whose_86 : decode cX12_whose 86 = .ok (.istore_n 3, 1) := by decide +kernel
theorem dX12_whose_87 : decode cX12_whose 87 = .ok (.iload 6, 2) := by decide +kernel
theorem dX12_whose_89 : decode cX12_whose 89 = .ok (.istore 4, 2) := by decide +kernel
theorem dX12_whose_91 : decode cX12_whose 91 = .ok (.iinc 5 1, 3) := by decide +kernel
theorem dX12_whose_94 : decode cX12_whose 94 = .ok (.goto (-60), 3) := by decide +kernel
theorem dX12_whose_97 : decode cX12_whose 97 = .ok (.iload_n 3, 1) := by decide +kernel
theorem dX12_whose_98 : decode cX12_whose 98 = .ok (.ireturn, 1) := by decide +kernel
theorem dX12_nearOf_0 : decode cX12_nearOf 0 = .ok (.bipush (-2), 2) := by decide +kernel
theorem dX12_nearOf_2 : decode cX12_nearOf 2 = .ok (.istore_n 3, 1) := by decide +kernel
theorem dX12_nearOf_3 : decode cX12_nearOf 3 = .ok (.aload_n 0, 1) := by decide +kernel
theorem dX12_nearOf_4 : decode cX12_nearOf 4 = .ok (.bipush (-2), 2) := by decide +kernel
theorem dX12_nearOf_6 : decode cX12_nearOf 6 = .ok (.putfield 381, 3) := by decide +kernel
theorem dX12_nearOf_9 : decode cX12_nearOf 9 = .ok (.iconst 0, 1) := by decide +kernel
theorem dX12_nearOf_10 : decode cX12_nearOf 10 = .ok (.istore 4, 2) := by decide +kernel
theorem dX12_nearOf_12 : decode cX12_nearOf 12 = .ok (.iload 4, 2) := by decide +kernel
theorem dX12_nearOf_14 : decode cX12_nearOf 14 = .ok (.aload_n 0, 1) := by decide +kernel
theorem dX12_nearOf_15 : decode cX12_nearOf 15 = .ok (.getfield 70, 3) := by decide +kernel
theorem dX12_nearOf_18 : decode cX12_nearOf 18 = .ok (.iconst 0, 1) := by decide +kernel
theorem dX12_nearOf_19 : decode cX12_nearOf 19 = .ok (.iaload, 1) := by decide +kernel
theorem dX12_nearOf_20 : decode cX12_nearOf 20 = .ok (.if_icmp .ge 80, 3) := by decide +kernel
theorem dX12_nearOf_23 : decode cX12_nearOf 23 = .ok (.iload 4, 2) := by decide +kernel
theorem dX12_nearOf_25 : decode cX12_nearOf 25 = .ok (.iload_n 1, 1) := by decide +kernel
theorem dX12_nearOf_26 : decode cX12_nearOf 26 = .ok (.isub, 1) := by decide +kernel
theorem dX12_nearOf_27 : decode cX12_nearOf 27 = .ok (.iconst 1, 1) := by decide +kernel
theorem dX12_nearOf_28 : decode cX12_nearOf 28 = .ok (.iload_n 2, 1) := by decide +kernel
theorem dX12_nearOf_29 : decode cX12_nearOf 29 = .ok (.isub, 1) := by decide +kernel
theorem dX12_nearOf_30 : decode cX12_nearOf 30 = .ok (.iload_n 2, 1) := by decide +kernel
theorem dX12_nearOf_31 : decode cX12_nearOf 31 = .ok (.iconst 1, 1) := by decide +kernel
theorem dX12_nearOf_32 : decode cX12_nearOf 32 = .ok (.isub, 1) := by decide +kernel
theorem dX12_nearOf_33 : decode cX12_nearOf 33 = .ok (.invokestatic 244, 3) := by decide +kernel
theorem dX12_nearOf_36 : decode cX12_nearOf 36 = .ok (.ifCond .ne 58, 3) := by decide +kernel
theorem dX12_nearOf_39 : decode cX12_nearOf 39 = .ok (.aload_n 0, 1) := by decide +kernel
theorem dX12_nearOf_40 : decode cX12_nearOf 40 = .ok (.iload 4, 2) := by decide +kernel
theorem dX12_nearOf_42 : decode cX12_nearOf 42 = .ok (.iload_n 2, 1) := by decide +kernel
theorem dX12_nearOf_43 : decode cX12_nearOf 43 = .ok (.invokevirtual 257, 3) := by decide +kernel
theorem dX12_nearOf_46 : decode cX12_nearOf 46 = .ok (.ifCond .ne 6, 3) := by decide +kernel
theorem dX12_nearOf_49 : decode cX12_nearOf 49 = .ok (.goto 45, 3) := by decide +kernel
theorem dX12_nearOf_52 : decode cX12_nearOf 52 = .ok (.aload_n 0, 1) := by decide +kernel
theorem dX12_nearOf_53 : decode cX12_nearOf 53 = .ok (.iload_n 1, 1) := by decide +kernel
theorem dX12_nearOf_54 : decode cX12_nearOf 54 = .ok (.iload 4, 2) := by decide +kernel
theorem dX12_nearOf_56 : decode cX12_nearOf 56 = .ok (.iload_n 2, 1) := by decide +kernel
theorem dX12_nearOf_57 : decode cX12_nearOf 57 = .ok (.invokevirtual 384, 3) := by decide +kernel
theorem dX12_nearOf_60 : decode cX12_nearOf 60 = .ok (.aload_n 0, 1) := by decide +kernel
theorem dX12_nearOf_61 : decode cX12_nearOf 61 = .ok (.ldc_w 282, 3) := by decide +kernel
theorem dX12_nearOf_64 : decode cX12_nearOf 64 = .ok (.invokevirtual 304, 3) := by decide +kernel
theorem dX12_nearOf_67 : decode cX12_nearOf 67 = .ok (.istore 5, 2) := by decide +kernel
theorem dX12_nearOf_69 : decode cX12_nearOf 69 = .ok (.iload_n 3, 1) := by decide +kernel
theorem dX12_nearOf_70 : decode cX12_nearOf 70 = .ok (.ifCond .lt 15, 3) := by decide +kernel
theorem dX12_nearOf_73 : decode cX12_nearOf 73 = .ok (.iload 5, 2) := by decide +kernel
theorem dX12_nearOf_75 : decode cX12_nearOf 75 = .ok (.aload_n 0, 1) := by decide +kernel
theorem dX12_nearOf_76 : decode cX12_nearOf 76 = .ok (.getfield 381, 3) := by decide +kernel
theorem dX12_nearOf_79 : decode cX12_nearOf 79 = .ok (.if_icmp .lt 6, 3) := by decide +kernel
theorem dX12_nearOf_82 : decode cX12_nearOf 82 = .ok (.goto 12, 3) := by decide +kernel
theorem dX12_nearOf_85 : decode cX12_nearOf 85 = .ok (.iload 4, 2) := by decide +kernel
theorem dX12_nearOf_87 : decode cX12_nearOf 87 = .ok (.istore_n 3, 1) := by decide +kernel
theorem dX12_nearOf_88 : decode cX12_nearOf 88 = .ok (.aload_n 0, 1) := by decide +kernel
theorem dX12_nearOf_89 : decode cX12_nearOf 89 = .ok (.iload 5, 2) := by decide +kernel
theorem dX12_nearOf_91 : decode cX12_nearOf 91 = .ok (.putfield 381, 3) := by decide +kernel
theorem dX12_nearOf_94 : decode cX12_nearOf 94 = .ok (.iinc 4 1, 3) := by decide +kernel
theorem dX12_nearOf_97 : decode cX12_nearOf 97 = .ok (.goto (-85), 3) := by decide +kernel
theorem dX12_nearOf_100 : decode cX12_nearOf 100 = .ok (.iload_n 3, 1) := by decide +kernel
theorem dX12_nearOf_101 : decode cX12_nearOf 101 = .ok (.ireturn, 1) := by decide +kernel
theorem dX12_near_0 : decode cX12_near 0 = .ok (.iload_n 2, 1) := by decide +kernel
theorem dX12_near_1 : decode cX12_near 1 = .ok (.iconst 2, 1) := by decide +kernel
theorem dX12_near_2 : decode cX12_near 2 = .ok (.bipush 16, 2) := by decide +kernel
theorem dX12_near_4 : decode cX12_near 4 = .ok (.invokestatic 244, 3) := by decide +kernel
theorem dX12_near_7 : decode cX12_near 7 = .ok (.ifCond .eq 21, 3) := by decide +kernel
theorem dX12_near_10 : decode cX12_near 10 = .ok (.aload_n 0, 1) := by decide +kernel
theorem dX12_near_11 : decode cX12_near 11 = .ok (.iload_n 1, 1) := by decide +kernel
theorem dX12_near_12 : decode cX12_near 12 = .ok (.iload_n 2, 1) := by decide +kernel
theorem dX12_near_13 : decode cX12_near 13 = .ok (.invokevirtual 257, 3) := by decide +kernel
theorem dX12_near_16 : decode cX12_near 16 = .ok (.ifCond .eq 12, 3) := by decide +kernel
theorem dX12_near_19 : decode cX12_near 19 = .ok (.iload_n 3, 1) := by decide +kernel
theorem dX12_near_20 : decode cX12_near 20 = .ok (.iconst 0, 1) := by decide +kernel
theorem dX12_near_21 : decode cX12_near 21 = .ok (.iconst 1, 1) := by decide +kernel
theorem dX12_near_22 : decode cX12_near 22 = .ok (.invokestatic 244, 3) := by decide +kernel
theorem dX12_near_25 : decode cX12_near 25 = .ok (.ifCond .ne 5, 3) := by decide +kernel
theorem dX12_near_28 : decode cX12_near 28 = .ok (.iconst (-1), 1) := by decide +kernel
theorem dX12_near_29 : decode cX12_near 29 = .ok (.ireturn, 1) := by decide +kernel
theorem dX12_near_30 : decode cX12_near 30 = .ok (.aload_n 0, 1) := by decide +kernel
theorem dX12_near_31 : decode cX12_near 31 = .ok (.invokevirtual 323, 3) := by decide +kernel
theorem dX12_near_34 : decode cX12_near 34 = .ok (.aload_n 0, 1) := by decide +kernel
theorem dX12_near_35 : decode cX12_near 35 = .ok (.iload_n 1, 1) := by decide +kernel
theorem dX12_near_36 : decode cX12_near 36 = .ok (.iload_n 2, 1) := by decide +kernel
theorem dX12_near_37 : decode cX12_near 37 = .ok (.invokevirtual 388, 3) := by decide +kernel
theorem dX12_near_40 : decode cX12_near 40 = .ok (.istore 4, 2) := by decide +kernel
theorem dX12_near_42 : decode cX12_near 42 = .ok (.iload_n 3, 1) := by decide +kernel
theorem dX12_near_43 : decode cX12_near 43 = .ok (.ifCond .ne 8, 3) := by decide +kernel
theorem dX12_near_46 : decode cX12_near 46 = .ok (.iload 4, 2) := by decide +kernel
theorem dX12_near_48 : decode cX12_near 48 = .ok (.goto 7, 3) := by decide +kernel
theorem dX12_near_51 : decode cX12_near 51 = .ok (.aload_n 0, 1) := by decide +kernel
theorem dX12_near_52 : decode cX12_near 52 = .ok (.getfield 381, 3) := by decide +kernel
theorem dX12_near_55 : decode cX12_near 55 = .ok (.ireturn, 1) := by decide +kernel
theorem dX12_pair_0 : decode cX12_pair 0 = .ok (.iload_n 1, 1) := by decide +kernel
theorem dX12_pair_1 : decode cX12_pair 1 = .ok (.iconst 2, 1) := by decide +kernel
theorem dX12_pair_2 : decode cX12_pair 2 = .ok (.bipush 16, 2) := by decide +kernel
theorem dX12_pair_4 : decode cX12_pair 4 = .ok (.invokestatic 244, 3) := by decide +kernel
theorem dX12_pair_7 : decode cX12_pair 7 = .ok (.ifCond .eq 12, 3) := by decide +kernel
theorem dX12_pair_10 : decode cX12_pair 10 = .ok (.iload_n 2, 1) := by decide +kernel
theorem dX12_pair_11 : decode cX12_pair 11 = .ok (.iconst 0, 1) := by decide +kernel
theorem dX12_pair_12 : decode cX12_pair 12 = .ok (.iconst 2, 1) := by decide +kernel
theorem dX12_pair_13 : decode cX12_pair 13 = .ok (.invokestatic 244, 3) := by decide +kernel
theorem dX12_pair_16 : decode cX12_pair 16 = .ok (.ifCond .ne 5, 3) := by decide +kernel
theorem dX12_pair_19 : decode cX12_pair 19 = .ok (.iconst (-1), 1) := by decide +kernel
theorem dX12_pair_20 : decode cX12_pair 20 = .ok (.ireturn, 1) := by decide +kernel
theorem dX12_pair_21 : decode cX12_pair 21 = .ok (.aload_n 0, 1) := by decide +kernel
theorem dX12_pair_22 : decode cX12_pair 22 = .ok (.invokevirtual 323, 3) := by decide +kernel
theorem dX12_pair_25 : decode cX12_pair 25 = .ok (.bipush (-2), 2) := by decide +kernel
theorem dX12_pair_27 : decode cX12_pair 27 = .ok (.istore_n 3, 1) := by decide +kernel
theorem dX12_pair_28 : decode cX12_pair 28 = .ok (.bipush (-2), 2) := by decide +kernel
theorem dX12_pair_30 : decode cX12_pair 30 = .ok (.istore 4, 2) := by decide +kernel
theorem dX12_pair_32 : decode cX12_pair 32 = .ok (.bipush (-2), 2) := by decide +kernel
theorem dX12_pair_34 : decode cX12_pair 34 = .ok (.istore 5, 2) := by decide +kernel
theorem dX12_pair_36 : decode cX12_pair 36 = .ok (.iconst 0, 1) := by decide +kernel
theorem dX12_pair_37 : decode cX12_pair 37 = .ok (.istore 6, 2) := by decide +kernel
theorem dX12_pair_39 : decode cX12_pair 39 = .ok (.iload 6, 2) := by decide +kernel
theorem dX12_pair_41 : decode cX12_pair 41 = .ok (.aload_n 0, 1) := by decide +kernel
theorem dX12_pair_42 : decode cX12_pair 42 = .ok (.getfield 70, 3) := by decide +kernel
theorem dX12_pair_45 : decode cX12_pair 45 = .ok (.iconst 0, 1) := by decide +kernel
theorem dX12_pair_46 : decode cX12_pair 46 = .ok (.iaload, 1) := by decide +kernel
theorem dX12_pair_47 : decode cX12_pair 47 = .ok (.if_icmp .ge 101, 3) := by decide +kernel
theorem dX12_pair_50 : decode cX12_pair 50 = .ok (.aload_n 0, 1) := by decide +kernel
theorem dX12_pair_51 : decode cX12_pair 51 = .ok (.iload 6, 2) := by decide +kernel
theorem dX12_pair_53 : decode cX12_pair 53 = .ok (.iload_n 1, 1) := by decide +kernel
theorem dX12_pair_54 : decode cX12_pair 54 = .ok (.invokevirtual 257, 3) := by decide +kernel
theorem dX12_pair_57 : decode cX12_pair 57 = .ok (.ifCond .ne 6, 3) := by decide +kernel
theorem dX12_pair_60 : decode cX12_pair 60 = .ok (.goto 82, 3) := by decide +kernel
theorem dX12_pair_63 : decode cX12_pair 63 = .ok (.iload 6, 2) := by decide +kernel
theorem dX12_pair_65 : decode cX12_pair 65 = .ok (.iload_n 1, 1) := by decide +kernel
theorem dX12_pair_66 : decode cX12_pair 66 = .ok (.iadd, 1) := by decide +kernel
theorem dX12_pair_67 : decode cX12_pair 67 = .ok (.istore 7, 2) := by decide +kernel
theorem dX12_pair_69 : decode cX12_pair 69 = .ok (.iload 7, 2) := by decide +kernel
theorem dX12_pair_71 : decode cX12_pair 71 = .ok (.aload_n 0, 1) := by decide +kernel
theorem dX12_pair_72 : decode cX12_pair 72 = .ok (.getfield 70, 3) := by decide +kernel
theorem dX12_pair_75 : decode cX12_pair 75 = .ok (.iconst 0, 1) := by decide +kernel
theorem dX12_pair_76 : decode cX12_pair 76 = .ok (.iaload, 1) := by decide +kernel
theorem dX12_pair_77 : decode cX12_pair 77 = .ok (.if_icmp .ge 65, 3) := by decide +kernel
theorem dX12_pair_80 : decode cX12_pair 80 = .ok (.aload_n 0, 1) := by decide +kernel
theorem dX12_pair_81 : decode cX12_pair 81 = .ok (.iload 7, 2) := by decide +kernel
theorem dX12_pair_83 : decode cX12_pair 83 = .ok (.iload_n 1, 1) := by decide +kernel
theorem dX12_pair_84 : decode cX12_pair 84 = .ok (.invokevirtual 257, 3) := by decide +kernel
theorem dX12_pair_87 : decode cX12_pair 87 = .ok (.ifCond .ne 6, 3) := by decide +kernel
theorem dX12_pair_90 : decode cX12_pair 90 = .ok (.goto 46, 3) := by decide +kernel
theorem dX12_pair_93 : decode cX12_pair 93 = .ok (.aload_n 0, 1) := by decide +kernel
theorem dX12_pair_94 : decode cX12_pair 94 = .ok (.iload 6, 2) := by decide +kernel
theorem dX12_pair_96 : decode cX12_pair 96 = .ok (.iload 7, 2) := by decide +kernel
theorem dX12_pair_98 : decode cX12_pair 98 = .ok (.iload_n 1, 1) := by decide +kernel
theorem dX12_pair_99 : decode cX12_pair 99 = .ok (.invokevirtual 384, 3) := by decide +kernel
theorem dX12_pair_102 : decode cX12_pair 102 = .ok (.aload_n 0, 1) := by decide +kernel
theorem dX12_pair_103 : decode cX12_pair 103 = .ok (.ldc_w 282, 3) := by decide +kernel
theorem dX12_pair_106 : decode cX12_pair 106 = .ok (.invokevirtual 304, 3) := by decide +kernel
theorem dX12_pair_109 : decode cX12_pair 109 = .ok (.istore 8, 2) := by decide +kernel
theorem dX12_pair_111 : decode cX12_pair 111 = .ok (.iload_n 3, 1) := by decide +kernel
theorem dX12_pair_112 : decode cX12_pair 112 = .ok (.ifCond .lt 13, 3) := by decide +kernel
theorem dX12_pair_115 : decode cX12_pair 115 = .ok (.iload 8, 2) := by decide +kernel
theorem dX12_pair_117 : decode cX12_pair 117 = .ok (.iload 5, 2) := by decide +kernel
theorem dX12_pair_119 : decode cX12_pair 119 = .ok (.if_icmp .lt 6, 3) := by decide +kernel
theorem dX12_pair_122 : decode cX12_pair 122 = .ok (.goto 14, 3) := by decide +kernel
theorem dX12_pair_125 : decode cX12_pair 125 = .ok (.iload 6, 2) := by decide +kernel
theorem dX12_pair_127 : decode cX12_pair 127 = .ok (.istore_n 3, 1) := by decide +kernel
theorem dX12_pair_128 : decode cX12_pair 128 = .ok (.iload 7, 2) := by decide +kernel
theorem dX12_pair_130 : decode cX12_pair 130 = .ok (.istore 4, 2) := by decide +kernel
theorem dX12_pair_132 : decode cX12_pair 132 = .ok (.iload 8, 2) := by decide +kernel
theorem dX12_pair_134 : decode cX12_pair 134 = .ok (.istore 5, 2) := by decide +kernel
theorem dX12_pair_136 : decode cX12_pair 136 = .ok (.iinc 7 1, 3) := by decide +kernel
theorem dX12_pair_139 : decode cX12_pair 139 = .ok (.goto (-70), 3) := by decide +kernel
theorem dX12_pair_142 : decode cX12_pair 142 = .ok (.iinc 6 1, 3) := by decide +kernel
theorem dX12_pair_145 : decode cX12_pair 145 = .ok (.goto (-106), 3) := by decide +kernel
theorem dX12_pair_148 : decode cX12_pair 148 = .ok (.iload_n 2, 1) := by decide +kernel
theorem dX12_pair_149 : decode cX12_pair 149 = .ok (.ifCond .ne 7, 3) := by decide +kernel
theorem dX12_pair_152 : decode cX12_pair 152 = .ok (.iload_n 3, 1) := by decide +kernel
theorem dX12_pair_153 : decode cX12_pair 153 = .ok (.goto 15, 3) := by decide +kernel
theorem dX12_pair_156 : decode cX12_pair 156 = .ok (.iload_n 2, 1) := by decide +kernel
theorem dX12_pair_157 : decode cX12_pair 157 = .ok (.iconst 1, 1) := by decide +kernel
theorem dX12_pair_158 : decode cX12_pair 158 = .ok (.if_icmp .ne 8, 3) := by decide +kernel
theorem dX12_pair_161 : decode cX12_pair 161 = .ok (.iload 4, 2) := by decide +kernel
theorem dX12_pair_163 : decode cX12_pair 163 = .ok (.goto 5, 3) := by decide +kernel
theorem dX12_pair_166 : decode cX12_pair 166 = .ok (.iload 5, 2) := by decide +kernel
theorem dX12_pair_168 : decode cX12_pair 168 = .ok (.ireturn, 1) := by decide +kernel
theorem dX12_odd_0 : decode cX12_odd 0 = .ok (.iload_n 1, 1) := by decide +kernel
theorem dX12_odd_1 : decode cX12_odd 1 = .ok (.iconst 2, 1) := by decide +kernel
theorem dX12_odd_2 : decode cX12_odd 2 = .ok (.bipush 16, 2) := by decide +kernel
theorem dX12_odd_4 : decode cX12_odd 4 = .ok (.invokestatic 244, 3) := by decide +kernel
theorem dX12_odd_7 : decode cX12_odd 7 = .ok (.ifCond .eq 12, 3) := by decide +kernel
theorem dX12_odd_10 : decode cX12_odd 10 = .ok (.iload_n 2, 1) := by decide +kernel
theorem dX12_odd_11 : decode cX12_odd 11 = .ok (.iconst 0, 1) := by decide +kernel
theorem dX12_odd_12 : decode cX12_odd 12 = .ok (.iconst 1, 1) := by decide +kernel
theorem dX12_odd_13 : decode cX12_odd 13 = .ok (.invokestatic 244, 3) := by decide +kernel
theorem dX12_odd_16 : decode cX12_odd 16 = .ok (.ifCond .ne 5, 3) := by decide +kernel
theorem dX12_odd_19 : decode cX12_odd 19 = .ok (.iconst (-1), 1) := by decide +kernel
theorem dX12_odd_20 : decode cX12_odd 20 = .ok (.ireturn, 1) := by decide +kernel
theorem dX12_odd_21 : decode cX12_odd 21 = .ok (.aload_n 0, 1) := by decide +kernel
theorem dX12_odd_22 : decode cX12_odd 22 = .ok (.invokevirtual 323, 3) := by decide +kernel
theorem dX12_odd_25 : decode cX12_odd 25 = .ok (.bipush (-2), 2) := by decide +kernel
theorem dX12_odd_27 : decode cX12_odd 27 = .ok (.istore_n 3, 1) := by decide +kernel
theorem dX12_odd_28 : decode cX12_odd 28 = .ok (.bipush (-2), 2) := by decide +kernel
theorem dX12_odd_30 : decode cX12_odd 30 = .ok (.istore 4, 2) := by decide +kernel
theorem dX12_odd_32 : decode cX12_odd 32 = .ok (.iconst 0, 1) := by decide +kernel
theorem dX12_odd_33 : decode cX12_odd 33 = .ok (.istore 5, 2) := by decide +kernel
theorem dX12_odd_35 : decode cX12_odd 35 = .ok (.iload 5, 2) := by decide +kernel
theorem dX12_odd_37 : decode cX12_odd 37 = .ok (.aload_n 0, 1) := by decide +kernel
theorem dX12_odd_38 : decode cX12_odd 38 = .ok (.getfield 70, 3) := by decide +kernel
theorem dX12_odd_41 : decode cX12_odd 41 = .ok (.iconst 0, 1) := by decide +kernel
theorem dX12_odd_42 : decode cX12_odd 42 = .ok (.iaload, 1) := by decide +kernel
theorem dX12_odd_43 : decode cX12_odd 43 = .ok (.if_icmp .ge 50, 3) := by decide +kernel
theorem dX12_odd_46 : decode cX12_odd 46 = .ok (.aload_n 0, 1) := by decide +kernel
theorem dX12_odd_47 : decode cX12_odd 47 = .ok (.iload 5, 2) := by decide +kernel
theorem dX12_odd_49 : decode cX12_odd 49 = .ok (.iload_n 1, 1) := by decide +kernel
theorem dX12_odd_50 : decode cX12_odd 50 = .ok (.invokevirtual 257, 3) := by decide +kernel
theorem dX12_odd_53 : decode cX12_odd 53 = .ok (.ifCond .eq 34, 3) := by decide +kernel
theorem dX12_odd_56 : decode cX12_odd 56 = .ok (.aload_n 0, 1) := by decide +kernel
theorem dX12_odd_57 : decode cX12_odd 57 = .ok (.iload 5, 2) := by decide +kernel
theorem dX12_odd_59 : decode cX12_odd 59 = .ok (.iload_n 1, 1) := by decide +kernel
theorem dX12_odd_60 : decode cX12_odd 60 = .ok (.invokevirtual 388, 3) := by decide +kernel
theorem dX12_odd_63 : decode cX12_odd 63 = .ok (.ifCond .lt 24, 3) := by decide +kernel
theorem dX12_odd_66 : decode cX12_odd 66 = .ok (.aload_n 0, 1) := by decide +kernel
theorem dX12_odd_67 : decode cX12_odd 67 = .ok (.getfield 381, 3) := by decide +kernel
theorem dX12_odd_70 : decode cX12_odd 70 = .ok (.iload 4, 2) := by decide +kernel
theorem dX12_odd_72 : decode cX12_odd 72 = .ok (.if_icmp .gt 6, 3) := by decide +kernel
theorem dX12_odd_75 : decode cX12_odd 75 = .ok (.goto 12, 3) := by decide +kernel
theorem dX12_odd_78 : decode cX12_odd 78 = .ok (.iload 5, 2) := by decide +kernel
theorem dX12_odd_80 : decode cX12_odd 80 = .ok (.istore_n 3, 1) := by decide +kernel
theorem dX12_odd_81 : decode cX12_odd 81 = .ok (.aload_n 0, 1) := by decide +kernel
theorem dX12_odd_82 : decode cX12_odd 82 = .ok (.getfield 381, 3) := by decide +kernel
theorem dX12_odd_85 : decode cX12_odd 85 = .ok (.istore 4, 2) := by decide +kernel
theorem dX12_odd_87 : decode cX12_odd 87 = .ok (.iinc 5 1, 3) := by decide +kernel
theorem dX12_odd_90 : decode cX12_odd 90 = .ok (.goto (-55), 3) := by decide +kernel
theorem dX12_odd_93 : decode cX12_odd 93 = .ok (.iload_n 2, 1) := by decide +kernel
theorem dX12_odd_94 : decode cX12_odd 94 = .ok (.ifCond .ne 7, 3) := by decide +kernel
theorem dX12_odd_97 : decode cX12_odd 97 = .ok (.iload_n 3, 1) := by decide +kernel
theorem dX12_odd_98 : decode cX12_odd 98 = .ok (.goto 5, 3) := by decide +kernel
theorem dX12_odd_101 : decode cX12_odd 101 = .ok (.iload 4, 2) := by decide +kernel
theorem dX12_odd_103 : decode cX12_odd 103 = .ok (.ireturn, 1) := by decide +kernel
theorem dX12_hold_0 : decode cX12_hold 0 = .ok (.iload_n 1, 1) := by decide +kernel
theorem dX12_hold_1 : decode cX12_hold 1 = .ok (.iconst 0, 1) := by decide +kernel
theorem dX12_hold_2 : decode cX12_hold 2 = .ok (.iconst 2, 1) := by decide +kernel
theorem dX12_hold_3 : decode cX12_hold 3 = .ok (.invokestatic 244, 3) := by decide +kernel
theorem dX12_hold_6 : decode cX12_hold 6 = .ok (.ifCond .ne 5, 3) := by decide +kernel
theorem dX12_hold_9 : decode cX12_hold 9 = .ok (.iconst 0, 1) := by decide +kernel
theorem dX12_hold_10 : decode cX12_hold 10 = .ok (.ireturn, 1) := by decide +kernel
theorem dX12_hold_11 : decode cX12_hold 11 = .ok (.aload_n 0, 1) := by decide +kernel
theorem dX12_hold_12 : decode cX12_hold 12 = .ok (.getfield 100, 3) := by decide +kernel
theorem dX12_hold_15 : decode cX12_hold 15 = .ok (.iload_n 1, 1) := by decide +kernel
theorem dX12_hold_16 : decode cX12_hold 16 = .ok (.iconst 1, 1) := by decide +kernel
theorem dX12_hold_17 : decode cX12_hold 17 = .ok (.bastore, 1) := by decide +kernel
theorem dX12_hold_18 : decode cX12_hold 18 = .ok (.iconst 0, 1) := by decide +kernel
theorem dX12_hold_19 : decode cX12_hold 19 = .ok (.istore_n 2, 1) := by decide +kernel
theorem dX12_hold_20 : decode cX12_hold 20 = .ok (.iload_n 2, 1) := by decide +kernel
theorem dX12_hold_21 : decode cX12_hold 21 = .ok (.sipush 165, 3) := by decide +kernel
theorem dX12_hold_24 : decode cX12_hold 24 = .ok (.if_icmp .ge 27, 3) := by decide +kernel
theorem dX12_hold_27 : decode cX12_hold 27 = .ok (.aload_n 0, 1) := by decide +kernel
theorem dX12_hold_28 : decode cX12_hold 28 = .ok (.getfield 104, 3) := by decide +kernel
theorem dX12_hold_31 : decode cX12_hold 31 = .ok (.sipush 165, 3) := by decide +kernel
theorem dX12_hold_34 : decode cX12_hold 34 = .ok (.iload_n 1, 1) := by decide +kernel
theorem dX12_hold_35 : decode cX12_hold 35 = .ok (.imul, 1) := by decide +kernel
theorem dX12_hold_36 : decode cX12_hold 36 = .ok (.iload_n 2, 1) := by decide +kernel
theorem dX12_hold_37 : decode cX12_hold 37 = .ok (.iadd, 1) := by decide +kernel
theorem dX12_hold_38 : decode cX12_hold 38 = .ok (.aload_n 0, 1) := by decide +kernel
theorem dX12_hold_39 : decode cX12_hold 39 = .ok (.getfield 70, 3) := by decide +kernel
theorem dX12_hold_42 : decode cX12_hold 42 = .ok (.iload_n 2, 1) := by decide +kernel
theorem dX12_hold_43 : decode cX12_hold 43 = .ok (.iaload, 1) := by decide +kernel
theorem dX12_hold_44 : decode cX12_hold 44 = .ok (.iastore, 1) := by decide +kernel
theorem dX12_hold_45 : decode cX12_hold 45 = .ok (.iinc 2 1, 3) := by decide +kernel
theorem dX12_hold_48 : decode cX12_hold 48 = .ok (.goto (-28), 3) := by decide +kernel
theorem dX12_hold_51 : decode cX12_hold 51 = .ok (.iconst 1, 1) := by decide +kernel
theorem dX12_hold_52 : decode cX12_hold 52 = .ok (.ireturn, 1) := by decide +kernel
theorem dX12_restore_0 : decode cX12_restore 0 = .ok (.iload_n 1, 1) := by decide +kernel
theorem dX12_restore_1 : decode cX12_restore 1 = .ok (.iconst 0, 1) := by decide +kernel
theorem dX12_restore_2 : decode cX12_restore 2 = .ok (.iconst 2, 1) := by decide +kernel
theorem dX12_restore_3 : decode cX12_restore 3 = .ok (.invokestatic 244, 3) := by decide +kernel
theorem dX12_restore_6 : decode cX12_restore 6 = .ok (.ifCond .eq 12, 3) := by decide +kernel
theorem dX12_restore_9 : decode cX12_restore 9 = .ok (.aload_n 0, 1) := by decide +kernel
theorem dX12_restore_10 : decode cX12_restore 10 = .ok (.getfield 100, 3) := by decide +kernel
theorem dX12_restore_13 : decode cX12_restore 13 = .ok (.iload_n 1, 1) := by decide +kernel
theorem dX12_restore_14 : decode cX12_restore 14 = .ok (.baload, 1) := by decide +kernel
theorem dX12_restore_15 : decode cX12_restore 15 = .ok (.ifCond .ne 5, 3) := by decide +kernel
theorem dX12_restore_18 : decode cX12_restore 18 = .ok (.iconst 0, 1) := by decide +kernel
theorem dX12_restore_19 : decode cX12_restore 19 = .ok (.ireturn, 1) := by decide +kernel
theorem dX12_restore_20 : decode cX12_restore 20 = .ok (.iconst 0, 1) := by decide +kernel
theorem dX12_restore_21 : decode cX12_restore 21 = .ok (.istore_n 2, 1) := by decide +kernel
theorem dX12_restore_22 : decode cX12_restore 22 = .ok (.iload_n 2, 1) := by decide +kernel
theorem dX12_restore_23 : decode cX12_restore 23 = .ok (.sipush 165, 3) := by decide +kernel
theorem dX12_restore_26 : decode cX12_restore 26 = .ok (.if_icmp .ge 27, 3) := by decide +kernel
theorem dX12_restore_29 : decode cX12_restore 29 = .ok (.aload_n 0, 1) := by decide +kernel
theorem dX12_restore_30 : decode cX12_restore 30 = .ok (.getfield 70, 3) := by decide +kernel
theorem dX12_restore_33 : decode cX12_restore 33 = .ok (.iload_n 2, 1) := by decide +kernel
theorem dX12_restore_34 : decode cX12_restore 34 = .ok (.aload_n 0, 1) := by decide +kernel
theorem dX12_restore_35 : decode cX12_restore 35 = .ok (.getfield 104, 3) := by decide +kernel
theorem dX12_restore_38 : decode cX12_restore 38 = .ok (.sipush 165, 3) := by decide +kernel
theorem dX12_restore_41 : decode cX12_restore 41 = .ok (.iload_n 1, 1) := by decide +kernel
theorem dX12_restore_42 : decode cX12_restore 42 = .ok (.imul, 1) := by decide +kernel
theorem dX12_restore_43 : decode cX12_restore 43 = .ok (.iload_n 2, 1) := by decide +kernel
theorem dX12_restore_44 : decode cX12_restore 44 = .ok (.iadd, 1) := by decide +kernel
theorem dX12_restore_45 : decode cX12_restore 45 = .ok (.iaload, 1) := by decide +kernel
theorem dX12_restore_46 : decode cX12_restore 46 = .ok (.iastore, 1) := by decide +kernel
theorem dX12_restore_47 : decode cX12_restore 47 = .ok (.iinc 2 1, 3) := by decide +kernel
theorem dX12_restore_50 : decode cX12_restore 50 = .ok (.goto (-28), 3) := by decide +kernel
theorem dX12_restore_53 : decode cX12_restore 53 = .ok (.aload_n 0, 1) := by decide +kernel
theorem dX12_restore_54 : decode cX12_restore 54 = .ok (.iconst 0, 1) := by decide +kernel
theorem dX12_restore_55 : decode cX12_restore 55 = .ok (.putfield 209, 3) := by decide +kernel
theorem dX12_restore_58 : decode cX12_restore 58 = .ok (.iconst 1, 1) := by decide +kernel
theorem dX12_restore_59 : decode cX12_restore 59 = .ok (.ireturn, 1) := by decide +kernel
theorem dX12_gaps_0 : decode cX12_gaps 0 = .ok (.iconst 0, 1) := by decide +kernel
theorem dX12_gaps_1 : decode cX12_gaps 1 = .ok (.istore_n 1, 1) := by decide +kernel
theorem dX12_gaps_2 : decode cX12_gaps 2 = .ok (.iconst 0, 1) := by decide +kernel
theorem dX12_gaps_3 : decode cX12_gaps 3 = .ok (.istore_n 2, 1) := by decide +kernel
theorem dX12_gaps_4 : decode cX12_gaps 4 = .ok (.iload_n 2, 1) := by decide +kernel
theorem dX12_gaps_5 : decode cX12_gaps 5 = .ok (.aload_n 0, 1) := by decide +kernel
theorem dX12_gaps_6 : decode cX12_gaps 6 = .ok (.getfield 70, 3) := by decide +kernel
theorem dX12_gaps_9 : decode cX12_gaps 9 = .ok (.iconst 0, 1) := by decide +kernel
theorem dX12_gaps_10 : decode cX12_gaps 10 = .ok (.iaload, 1) := by decide +kernel
theorem dX12_gaps_11 : decode cX12_gaps 11 = .ok (.if_icmp .ge 20, 3) := by decide +kernel
theorem dX12_gaps_14 : decode cX12_gaps 14 = .ok (.aload_n 0, 1) := by decide +kernel
theorem dX12_gaps_15 : decode cX12_gaps 15 = .ok (.iload_n 2, 1) := by decide +kernel
theorem dX12_gaps_16 : decode cX12_gaps 16 = .ok (.invokevirtual 320, 3) := by decide +kernel
theorem dX12_gaps_19 : decode cX12_gaps 19 = .ok (.ifCond .ne 6, 3) := by decide +kernel
theorem dX12_gaps_22 : decode cX12_gaps 22 = .ok (.iinc 1 1, 3) := by decide +kernel
theorem dX12_gaps_25 : decode cX12_gaps 25 = .ok (.iinc 2 1, 3) := by decide +kernel
theorem dX12_gaps_28 : decode cX12_gaps 28 = .ok (.goto (-24), 3) := by decide +kernel
theorem dX12_gaps_31 : decode cX12_gaps 31 = .ok (.iload_n 1, 1) := by decide +kernel
theorem dX12_gaps_32 : decode cX12_gaps 32 = .ok (.ireturn, 1) := by decide +kernel
theorem dX12_count_0 : decode cX12_count 0 = .ok (.iconst 0, 1) := by decide +kernel
theorem dX12_count_1 : decode cX12_count 1 = .ok (.istore_n 2, 1) := by decide +kernel
theorem dX12_count_2 : decode cX12_count 2 = .ok (.iload_n 1, 1) := by decide +kernel
theorem dX12_count_3 : decode cX12_count 3 = .ok (.tableswitch 375 0 14 #[73, 80, 85, 95, 104, 113, 122, 131, 156, 161, 166, 205, 250, 303, 359], 73) := by decide +kernel
theorem dX12_count_76 : decode cX12_count 76 = .ok (.aload_n 0, 1) := by decide +kernel
theorem dX12_count_77 : decode cX12_count 77 = .ok (.getfield 70, 3) := by decide +kernel
theorem dX12_count_80 : decode cX12_count 80 = .ok (.iconst 0, 1) := by decide +kernel
theorem dX12_count_81 : decode cX12_count 81 = .ok (.iaload, 1) := by decide +kernel
theorem dX12_count_82 : decode cX12_count 82 = .ok (.ireturn, 1) := by decide +kernel
theorem dX12_count_83 : decode cX12_count 83 = .ok (.aload_n 0, 1) := by decide +kernel
theorem dX12_count_84 : decode cX12_count 84 = .ok (.invokevirtual 391, 3) := by decide +kernel
theorem dX12_count_87 : decode cX12_count 87 = .ok (.ireturn, 1) := by decide +kernel
theorem dX12_count_88 : decode cX12_count 88 = .ok (.aload_n 0, 1) := by decide +kernel
theorem dX12_count_89 : decode cX12_count 89 = .ok (.getfield 49, 3) := by decide +kernel
theorem dX12_count_92 : decode cX12_count 92 = .ok (.aload_n 0, 1) := by decide +kernel
theorem dX12_count_93 : decode cX12_count 93 = .ok (.getfield 197, 3) := by decide +kernel
theorem dX12_count_96 : decode cX12_count 96 = .ok (.iaload, 1) := by decide +kernel
theorem dX12_count_97 : decode cX12_count 97 = .ok (.ireturn, 1) := by decide +kernel
theorem dX12_count_98 : decode cX12_count 98 = .ok (.aload_n 0, 1) := by decide +kernel
theorem dX12_count_99 : decode cX12_count 99 = .ok (.getfield 70, 3) := by decide +kernel
theorem dX12_count_102 : decode cX12_count 102 = .ok (.sipush 161, 3) := by decide +kernel
theorem dX12_count_105 : decode cX12_count 105 = .ok (.iaload, 1) := by decide +kernel
theorem dX12_count_106 : decode cX12_count 106 = .ok (.ireturn, 1) := by decide +kernel
theorem dX12_count_107 : decode cX12_count 107 = .ok (.aload_n 0, 1) := by decide +kernel
theorem dX12_count_108 : decode cX12_count 108 = .ok (.getfield 70, 3) := by decide +kernel
theorem dX12_count_111 : decode cX12_count 111 = .ok (.sipush 162, 3) := by decide +kernel
theorem dX12_count_114 : decode cX12_count 114 = .ok (.iaload, 1) := by decide +kernel
theorem dX12_count_115 : decode cX12_count 115 = .ok (.ireturn, 1) := by decide +kernel
theorem dX12_count_116 : decode cX12_count 116 = .ok (.aload_n 0, 1) := by decide +kernel
theorem dX12_count_117 : decode cX12_count 117 = .ok (.getfield 70, 3) := by decide +kernel
theorem dX12_count_120 : decode cX12_count 120 = .ok (.sipush 163, 3) := by decide +kernel
theorem dX12_count_123 : decode cX12_count 123 = .ok (.iaload, 1) := by decide +kernel
theorem dX12_count_124 : decode cX12_count 124 = .ok (.ireturn, 1) := by decide +kernel
theorem dX12_count_125 : decode cX12_count 125 = .ok (.aload_n 0, 1) := by decide +kernel
theorem dX12_count_126 : decode cX12_count 126 = .ok (.getfield 70, 3) := by decide +kernel
theorem dX12_count_129 : decode cX12_count 129 = .ok (.sipush 164, 3) := by decide +kernel
theorem dX12_count_132 : decode cX12_count 132 = .ok (.iaload, 1) := by decide +kernel
theorem dX12_count_133 : decode cX12_count 133 = .ok (.ireturn, 1) := by decide +kernel
theorem dX12_count_134 : decode cX12_count 134 = .ok (.aload_n 0, 1) := by decide +kernel
theorem dX12_count_135 : decode cX12_count 135 = .ok (.aload_n 0, 1) := by decide +kernel
theorem dX12_count_136 : decode cX12_count 136 = .ok (.getfield 70, 3) := by decide +kernel
theorem dX12_count_139 : decode cX12_count 139 = .ok (.iconst 0, 1) := by decide +kernel
theorem dX12_count_140 : decode cX12_count 140 = .ok (.iaload, 1) := by decide +kernel
theorem dX12_count_141 : decode cX12_count 141 = .ok (.iconst 1, 1) := by decide +kernel
theorem dX12_count_142 : decode cX12_count 142 = .ok (.isub, 1) := by decide +kernel
theorem dX12_count_143 : decode cX12_count 143 = .ok (.iload_n 2, 1) := by decide +kernel
theorem dX12_count_144 : decode cX12_count 144 = .ok (.isub, 1) := by decide +kernel
theorem dX12_count_145 : decode cX12_count 145 = .ok (.invokevirtual 320, 3) := by decide +kernel
theorem dX12_count_148 : decode cX12_count 148 = .ok (.ifCond .eq 9, 3) := by decide +kernel
theorem dX12_count_151 : decode cX12_count 151 = .ok (.iinc 2 1, 3) := by decide +kernel
theorem dX12_count_154 : decode cX12_count 154 = .ok (.goto (-20), 3) := by decide +kernel
theorem dX12_count_157 : decode cX12_count 157 = .ok (.iload_n 2, 1) := by decide +kernel
theorem dX12_count_158 : decode cX12_count 158 = .ok (.ireturn, 1) := by decide +kernel
theorem dX12_count_159 : decode cX12_count 159 = .ok (.aload_n 0, 1) := by decide +kernel
theorem dX12_count_160 : decode cX12_count 160 = .ok (.getfield 124, 3) := by decide +kernel
theorem dX12_count_163 : decode cX12_count 163 = .ok (.ireturn, 1) := by decide +kernel
theorem dX12_count_164 : decode cX12_count 164 = .ok (.aload_n 0, 1) := by decide +kernel
theorem dX12_count_165 : decode cX12_count 165 = .ok (.getfield 209, 3) := by decide +kernel
theorem dX12_count_168 : decode cX12_count 168 = .ok (.ireturn, 1) := by decide +kernel
theorem dX12_count_169 : decode cX12_count 169 = .ok (.iconst 0, 1) := by decide +kernel
theorem dX12_count_170 : decode cX12_count 170 = .ok (.istore_n 3, 1) := by decide +kernel
theorem dX12_count_171 : decode cX12_count 171 = .ok (.iload_n 3, 1) := by decide +kernel
theorem dX12_count_172 : decode cX12_count 172 = .ok (.aload_n 0, 1) := by decide +kernel
theorem dX12_count_173 : decode cX12_count 173 = .ok (.getfield 70, 3) := by decide +kernel
theorem dX12_count_176 : decode cX12_count 176 = .ok (.iconst 0, 1) := by decide +kernel
theorem dX12_count_177 : decode cX12_count 177 = .ok (.iaload, 1) := by decide +kernel
theorem dX12_count_178 : decode cX12_count 178 = .ok (.if_icmp .ge 28, 3) := by decide +kernel
theorem dX12_count_181 : decode cX12_count 181 = .ok (.aload_n 0, 1) := by decide +kernel
theorem dX12_count_182 : decode cX12_count 182 = .ok (.iload_n 3, 1) := by decide +kernel
theorem dX12_count_183 : decode cX12_count 183 = .ok (.invokevirtual 320, 3) := by decide +kernel
theorem dX12_count_186 : decode cX12_count 186 = .ok (.ifCond .eq 14, 3) := by decide +kernel
theorem dX12_count_189 : decode cX12_count 189 = .ok (.iload_n 2, 1) := by decide +kernel
theorem dX12_count_190 : decode cX12_count 190 = .ok (.aload_n 0, 1) := by decide +kernel
theorem dX12_count_191 : decode cX12_count 191 = .ok (.getfield 70, 3) := by decide +kernel
theorem dX12_count_194 : decode cX12_count 194 = .ok (.iconst 1, 1) := by decide +kernel
theorem dX12_count_195 : decode cX12_count 195 = .ok (.iload_n 3, 1) := by decide +kernel
theorem dX12_count_196 : decode cX12_count 196 = .ok (.iadd, 1) := by decide +kernel
theorem dX12_count_197 : decode cX12_count 197 = .ok (.iaload, 1) := by decide +kernel
theorem dX12_count_198 : decode cX12_count 198 = .ok (.iadd, 1) := by decide +kernel
theorem dX12_count_199 : decode cX12_count 199 = .ok (.istore_n 2, 1) := by decide +kernel
theorem dX12_count_200 : decode cX12_count 200 = .ok (.iinc 3 1, 3) := by decide +kernel
theorem dX12_count_203 : decode cX12_count 203 = .ok (.goto (-32), 3) := by decide +kernel
theorem dX12_count_206 : decode cX12_count 206 = .ok (.iload_n 2, 1) := by decide +kernel
theorem dX12_count_207 : decode cX12_count 207 = .ok (.ireturn, 1) := by decide +kernel
theorem dX12_count_208 : decode cX12_count 208 = .ok (.aload_n 0, 1) := by decide +kernel
theorem dX12_count_209 : decode cX12_count 209 = .ok (.getfield 100, 3) := by decide +kernel
theorem dX12_count_212 : decode cX12_count 212 = .ok (.iconst 0, 1) := by decide +kernel
theorem dX12_count_213 : decode cX12_count 213 = .ok (.baload, 1) := by decide +kernel
theorem dX12_count_214 : decode cX12_count 214 = .ok (.ifCond .eq 7, 3) := by decide +kernel
theorem dX12_count_217 : decode cX12_count 217 = .ok (.iconst 1, 1) := by decide +kernel
theorem dX12_count_218 : decode cX12_count 218 = .ok (.goto 4, 3) := by decide +kernel
theorem dX12_count_221 : decode cX12_count 221 = .ok (.iconst 0, 1) := by decide +kernel
theorem dX12_count_222 : decode cX12_count 222 = .ok (.aload_n 0, 1) := by decide +kernel
theorem dX12_count_223 : decode cX12_count 223 = .ok (.getfield 100, 3) := by decide +kernel
theorem dX12_count_226 : decode cX12_count 226 = .ok (.iconst 1, 1) := by decide +kernel
theorem dX12_count_227 : decode cX12_count 227 = .ok (.baload, 1) := by decide +kernel
theorem dX12_count_228 : decode cX12_count 228 = .ok (.ifCond .eq 7, 3) := by decide +kernel
theorem dX12_count_231 : decode cX12_count 231 = .ok (.iconst 1, 1) := by decide +kernel
theorem dX12_count_232 : decode cX12_count 232 = .ok (.goto 4, 3) := by decide +kernel
theorem dX12_count_235 : decode cX12_count 235 = .ok (.iconst 0, 1) := by decide +kernel
theorem dX12_count_236 : decode cX12_count 236 = .ok (.iadd, 1) := by decide +kernel
theorem dX12_count_237 : decode cX12_count 237 = .ok (.aload_n 0, 1) := by decide +kernel
theorem dX12_count_238 : decode cX12_count 238 = .ok (.getfield 100, 3) := by decide +kernel
theorem dX12_count_241 : decode cX12_count 241 = .ok (.iconst 2, 1) := by decide +kernel
theorem dX12_count_242 : decode cX12_count 242 = .ok (.baload, 1) := by decide +kernel
theorem dX12_count_243 : decode cX12_count 243 = .ok (.ifCond .eq 7, 3) := by decide +kernel
theorem dX12_count_246 : decode cX12_count 246 = .ok (.iconst 1, 1) := by decide +kernel
theorem dX12_count_247 : decode cX12_count 247 = .ok (.goto 4, 3) := by decide +kernel
theorem dX12_count_250 : decode cX12_count 250 = .ok (.iconst 0, 1) := by decide +kernel
theorem dX12_count_251 : decode cX12_count 251 = .ok (.iadd, 1) := by decide +kernel
theorem dX12_count_252 : decode cX12_count 252 = .ok (.ireturn, 1) := by decide +kernel
theorem dX12_count_253 : decode cX12_count 253 = .ok (.sipush (-1000), 3) := by decide +kernel
theorem dX12_count_256 : decode cX12_count 256 = .ok (.istore_n 2, 1) := by decide +kernel
theorem dX12_count_257 : decode cX12_count 257 = .ok (.iconst 0, 1) := by decide +kernel
theorem dX12_count_258 : decode cX12_count 258 = .ok (.istore_n 3, 1) := by decide +kernel
theorem dX12_count_259 : decode cX12_count 259 = .ok (.iload_n 3, 1) := by decide +kernel
theorem dX12_count_260 : decode cX12_count 260 = .ok (.aload_n 0, 1) := by decide +kernel
theorem dX12_count_261 : decode cX12_count 261 = .ok (.getfield 70, 3) := by decide +kernel
theorem dX12_count_264 : decode cX12_count 264 = .ok (.iconst 0, 1) := by decide +kernel
theorem dX12_count_265 : decode cX12_count 265 = .ok (.iaload, 1) := by decide +kernel
theorem dX12_count_266 : decode cX12_count 266 = .ok (.if_icmp .ge 38, 3) := by decide +kernel
theorem dX12_count_269 : decode cX12_count 269 = .ok (.aload_n 0, 1) := by decide +kernel
theorem dX12_count_270 : decode cX12_count 270 = .ok (.iload_n 3, 1) := by decide +kernel
theorem dX12_count_271 : decode cX12_count 271 = .ok (.invokevirtual 320, 3) := by decide +kernel
theorem dX12_count_274 : decode cX12_count 274 = .ok (.ifCond .eq 24, 3) := by decide +kernel
theorem dX12_count_277 : decode cX12_count 277 = .ok (.aload_n 0, 1) := by decide +kernel
theorem dX12_count_278 : decode cX12_count 278 = .ok (.getfield 70, 3) := by decide +kernel
theorem dX12_count_281 : decode cX12_count 281 = .ok (.iconst 1, 1) := by decide +kernel
theorem dX12_count_282 : decode cX12_count 282 = .ok (.iload_n 3, 1) := by decide +kernel
theorem dX12_count_283 : decode cX12_count 283 = .ok (.iadd, 1) := by decide +kernel
theorem dX12_count_284 : decode cX12_count 284 = .ok (.iaload, 1) := by decide +kernel
theorem dX12_count_285 : decode cX12_count 285 = .ok (.iload_n 2, 1) := by decide +kernel
theorem dX12_count_286 : decode cX12_count 286 = .ok (.if_icmp .le 12, 3) := by decide +kernel
theorem dX12_count_289 : decode cX12_count 289 = .ok (.aload_n 0, 1) := by decide +kernel
theorem dX12_count_290 : decode cX12_count 290 = .ok (.getfield 70, 3) := by decide +kernel
theorem dX12_count_293 : decode cX12_count 293 = .ok (.iconst 1, 1) := by decide +kernel
theorem dX12_count_294 : decode cX12_count 294 = .ok (.iload_n 3, 1) := by decide +kernel
theorem dX12_count_295 : decode cX12_count 295 = .ok (.iadd, 1) := by decide +kernel
theorem dX12_count_296 : decode cX12_count 296 = .ok (.iaload, 1) := by decide +kernel
theorem dX12_count_297 : decode cX12_count 297 = .ok (.istore_n 2, 1) := by decide +kernel
theorem dX12_count_298 : decode cX12_count 298 = .ok (.iinc 3 1, 3) := by decide +kernel
theorem dX12_count_301 : decode cX12_count 301 = .ok (.goto (-42), 3) := by decide +kernel
theorem dX12_count_304 : decode cX12_count 304 = .ok (.iload_n 2, 1) := by decide +kernel
theorem dX12_count_305 : decode cX12_count 305 = .ok (.ireturn, 1) := by decide +kernel
theorem dX12_count_306 : decode cX12_count 306 = .ok (.ldc 239, 2) := by decide +kernel
theorem dX12_count_308 : decode cX12_count 308 = .ok (.istore_n 2, 1) := by decide +kernel
theorem dX12_count_309 : decode cX12_count 309 = .ok (.iconst 0, 1) := by decide +kernel
theorem dX12_count_310 : decode cX12_count 310 = .ok (.istore_n 3, 1) := by decide +kernel
theorem dX12_count_311 : decode cX12_count 311 = .ok (.iload_n 3, 1) := by decide +kernel
theorem dX12_count_312 : decode cX12_count 312 = .ok (.aload_n 0, 1) := by decide +kernel
theorem dX12_count_313 : decode cX12_count 313 = .ok (.getfield 70, 3) := by decide +kernel
theorem dX12_count_316 : decode cX12_count 316 = .ok (.iconst 0, 1) := by decide +kernel
theorem dX12_count_317 : decode cX12_count 317 = .ok (.iaload, 1) := by decide +kernel
theorem dX12_count_318 : decode cX12_count 318 = .ok (.if_icmp .ge 30, 3) := by decide +kernel
theorem dX12_count_321 : decode cX12_count 321 = .ok (.aload_n 0, 1) := by decide +kernel
theorem dX12_count_322 : decode cX12_count 322 = .ok (.getfield 70, 3) := by decide +kernel
theorem dX12_count_325 : decode cX12_count 325 = .ok (.iconst 1, 1) := by decide +kernel
theorem dX12_count_326 : decode cX12_count 326 = .ok (.iload_n 3, 1) := by decide +kernel
theorem dX12_count_327 : decode cX12_count 327 = .ok (.iadd, 1) := by decide +kernel
theorem dX12_count_328 : decode cX12_count 328 = .ok (.iaload, 1) := by decide +kernel
theorem dX12_count_329 : decode cX12_count 329 = .ok (.iload_n 2, 1) := by decide +kernel
theorem dX12_count_330 : decode cX12_count 330 = .ok (.if_icmp .ge 12, 3) := by decide +kernel
theorem dX12_count_333 : decode cX12_count 333 = .ok (.aload_n 0, 1) := by decide +kernel
theorem dX12_count_334 : decode cX12_count 334 = .ok (.getfield 70, 3) := by decide +kernel
theorem dX12_count_337 : decode cX12_count 337 = .ok (.iconst 1, 1) := by decide +kernel
theorem dX12_count_338 : decode cX12_count 338 = .ok (.iload_n 3, 1) := by decide +kernel
theorem dX12_count_339 : decode cX12_count 339 = .ok (.iadd, 1) := by decide +kernel
theorem dX12_count_340 : decode cX12_count 340 = .ok (.iaload, 1) := by decide +kernel
theorem dX12_count_341 : decode cX12_count 341 = .ok (.istore_n 2, 1) := by decide +kernel
theorem dX12_count_342 : decode cX12_count 342 = .ok (.iinc 3 1, 3) := by decide +kernel
theorem dX12_count_345 : decode cX12_count 345 = .ok (.goto (-34), 3) := by decide +kernel
theorem dX12_count_348 : decode cX12_count 348 = .ok (.iload_n 2, 1) := by decide +kernel
theorem dX12_count_349 : decode cX12_count 349 = .ok (.ldc 239, 2) := by decide +kernel
theorem dX12_count_351 : decode cX12_count 351 = .ok (.if_icmp .ne 9, 3) := by decide +kernel
theorem dX12_count_354 : decode cX12_count 354 = .ok (.sipush (-1000), 3) := by decide +kernel
theorem dX12_count_357 : decode cX12_count 357 = .ok (.goto 4, 3) := by decide +kernel
theorem dX12_count_360 : decode cX12_count 360 = .ok (.iload_n 2, 1) := by decide +kernel
theorem dX12_count_361 : decode cX12_count 361 = .ok (.ireturn, 1) := by decide +kernel
theorem dX12_count_362 : decode cX12_count 362 = .ok (.aload_n 0, 1) := by decide +kernel
theorem dX12_count_363 : decode cX12_count 363 = .ok (.iload_n 2, 1) := by decide +kernel
theorem dX12_count_364 : decode cX12_count 364 = .ok (.invokevirtual 320, 3) := by decide +kernel
theorem dX12_count_367 : decode cX12_count 367 = .ok (.ifCond .eq 9, 3) := by decide +kernel
theorem dX12_count_370 : decode cX12_count 370 = .ok (.iinc 2 1, 3) := by decide +kernel
theorem dX12_count_373 : decode cX12_count 373 = .ok (.goto (-11), 3) := by decide +kernel
theorem dX12_count_376 : decode cX12_count 376 = .ok (.iload_n 2, 1) := by decide +kernel
theorem dX12_count_377 : decode cX12_count 377 = .ok (.ireturn, 1) := by decide +kernel
theorem dX12_count_378 : decode cX12_count 378 = .ok (.iconst (-1), 1) := by decide +kernel
theorem dX12_count_379 : decode cX12_count 379 = .ok (.ireturn, 1) := by decide +kernel
theorem dL_law_0 : decode cL_law 0 = .ok (.new 7, 3) := by decide +kernel
theorem dL_law_3 : decode cL_law 3 = .ok (.dup, 1) := by decide +kernel
theorem dL_law_4 : decode cL_law 4 = .ok (.invokespecial 9, 3) := by decide +kernel
theorem dL_law_7 : decode cL_law 7 = .ok (.astore_n 1, 1) := by decide +kernel
theorem dL_law_8 : decode cL_law 8 = .ok (.new 10, 3) := by decide +kernel
theorem dL_law_11 : decode cL_law 11 = .ok (.dup, 1) := by decide +kernel
theorem dL_law_12 : decode cL_law 12 = .ok (.invokespecial 12, 3) := by decide +kernel
theorem dL_law_15 : decode cL_law 15 = .ok (.astore_n 2, 1) := by decide +kernel
theorem dL_law_16 : decode cL_law 16 = .ok (.iconst 0, 1) := by decide +kernel
theorem dL_law_17 : decode cL_law 17 = .ok (.istore_n 3, 1) := by decide +kernel
theorem dL_law_18 : decode cL_law 18 = .ok (.iload_n 3, 1) := by decide +kernel
theorem dL_law_19 : decode cL_law 19 = .ok (.aload_n 0, 1) := by decide +kernel
theorem dL_law_20 : decode cL_law 20 = .ok (.arraylength, 1) := by decide +kernel
theorem dL_law_21 : decode cL_law 21 = .ok (.bipush 6, 2) := by decide +kernel
theorem dL_law_23 : decode cL_law 23 = .ok (.isub, 1) := by decide +kernel
theorem dL_law_24 : decode cL_law 24 = .ok (.if_icmp .gt 1447, 3) := by decide +kernel
theorem dL_law_27 : decode cL_law 27 = .ok (.aload_n 0, 1) := by decide +kernel
theorem dL_law_28 : decode cL_law 28 = .ok (.iload_n 3, 1) := by decide +kernel
theorem dL_law_29 : decode cL_law 29 = .ok (.iaload, 1) := by decide +kernel
theorem dL_law_30 : decode cL_law 30 = .ok (.bipush 63, 2) := by decide +kernel
theorem dL_law_32 : decode cL_law 32 = .ok (.iand, 1) := by decide +kernel
theorem dL_law_33 : decode cL_law 33 = .ok (.tableswitch 1432 0 40 #[179, 242, 265, 278, 291, 304, 327, 360, 383, 396, 419, 442, 475, 488, 531, 574, 607, 650, 703, 736, 769, 812, 845, 888, 921, 954, 997, 1030, 1063, 1096, 1139, 1172, 1205, 1248, 1271, 1294, 1317, 1340, 1363, 1386, 1409], 179) := by decide +kernel
theorem dL_law_212 : decode cL_law 212 = .ok (.aload_n 1, 1) := by decide +kernel
theorem dL_law_213 : decode cL_law 213 = .ok (.aload_n 0, 1) := by decide +kernel
theorem dL_law_214 : decode cL_law 214 = .ok (.iload_n 3, 1) := by decide +kernel
theorem dL_law_215 : decode cL_law 215 = .ok (.iconst 1, 1) := by decide +kernel
theorem dL_law_216 : decode cL_law 216 = .ok (.iadd, 1) := by decide +kernel
theorem dL_law_217 : decode cL_law 217 = .ok (.iaload, 1) := by decide +kernel
theorem dL_law_218 : decode cL_law 218 = .ok (.aload_n 0, 1) := by decide +kernel
theorem dL_law_219 : decode cL_law 219 = .ok (.iload_n 3, 1) := by decide +kernel
theorem dL_law_220 : decode cL_law 220 = .ok (.iconst 2, 1) := by decide +kernel
theorem dL_law_221 : decode cL_law 221 = .ok (.iadd, 1) := by decide +kernel
theorem dL_law_222 : decode cL_law 222 = .ok (.iaload, 1) := by decide +kernel
theorem dL_law_223 : decode cL_law 223 = .ok (.aload_n 0, 1) := by decide +kernel
theorem dL_law_224 : decode cL_law 224 = .ok (.iload_n 3, 1) := by decide +kernel
theorem dL_law_225 : decode cL_law 225 = .ok (.iconst 3, 1) := by decide +kernel
theorem dL_law_226 : decode cL_law 226 = .ok (.iadd, 1) := by decide +kernel
theorem dL_law_227 : decode cL_law 227 = .ok (.iaload, 1) := by decide +kernel
theorem dL_law_228 : decode cL_law 228 = .ok (.aload_n 0, 1) := by decide +kernel
theorem dL_law_229 : decode cL_law 229 = .ok (.iload_n 3, 1) := by decide +kernel
theorem dL_law_230 : decode cL_law 230 = .ok (.iconst 4, 1) := by decide +kernel
theorem dL_law_231 : decode cL_law 231 = .ok (.iadd, 1) := by decide +kernel
theorem dL_law_232 : decode cL_law 232 = .ok (.iaload, 1) := by decide +kernel
theorem dL_law_233 : decode cL_law 233 = .ok (.aload_n 0, 1) := by decide +kernel
theorem dL_law_234 : decode cL_law 234 = .ok (.iload_n 3, 1) := by decide +kernel
theorem dL_law_235 : decode cL_law 235 = .ok (.iconst 5, 1) := by decide +kernel
theorem dL_law_236 : decode cL_law 236 = .ok (.iadd, 1) := by decide +kernel
theorem dL_law_237 : decode cL_law 237 = .ok (.iaload, 1) := by decide +kernel
theorem dL_law_238 : decode cL_law 238 = .ok (.invokevirtual 13, 3) := by decide +kernel
theorem dL_law_241 : decode cL_law 241 = .ok (.aload_n 2, 1) := by decide +kernel
theorem dL_law_242 : decode cL_law 242 = .ok (.aload_n 0, 1) := by decide +kernel
theorem dL_law_243 : decode cL_law 243 = .ok (.iload_n 3, 1) := by decide +kernel
theorem dL_law_244 : decode cL_law 244 = .ok (.iconst 1, 1) := by decide +kernel
theorem dL_law_245 : decode cL_law 245 = .ok (.iadd, 1) := by decide +kernel
theorem dL_law_246 : decode cL_law 246 = .ok (.iaload, 1) := by decide +kernel
theorem dL_law_247 : decode cL_law 247 = .ok (.aload_n 0, 1) := by decide +kernel
theorem dL_law_248 : decode cL_law 248 = .ok (.iload_n 3, 1) := by decide +kernel
theorem dL_law_249 : decode cL_law 249 = .ok (.iconst 2, 1) := by decide +kernel
theorem dL_law_250 : decode cL_law 250 = .ok (.iadd, 1) := by decide +kernel
theorem dL_law_251 : decode cL_law 251 = .ok (.iaload, 1) := by decide +kernel
theorem dL_law_252 : decode cL_law 252 = .ok (.aload_n 0, 1) := by decide +kernel
theorem dL_law_253 : decode cL_law 253 = .ok (.iload_n 3, 1) := by decide +kernel
theorem dL_law_254 : decode cL_law 254 = .ok (.iconst 3, 1) := by decide +kernel
theorem dL_law_255 : decode cL_law 255 = .ok (.iadd, 1) := by decide +kernel
theorem dL_law_256 : decode cL_law 256 = .ok (.iaload, 1) := by decide +kernel
theorem dL_law_257 : decode cL_law 257 = .ok (.aload_n 0, 1) := by decide +kernel
theorem dL_law_258 : decode cL_law 258 = .ok (.iload_n 3, 1) := by decide +kernel
theorem dL_law_259 : decode cL_law 259 = .ok (.iconst 4, 1) := by decide +kernel
theorem dL_law_260 : decode cL_law 260 = .ok (.iadd, 1) := by decide +kernel
theorem dL_law_261 : decode cL_law 261 = .ok (.iaload, 1) := by decide +kernel
theorem dL_law_262 : decode cL_law 262 = .ok (.aload_n 0, 1) := by decide +kernel
theorem dL_law_263 : decode cL_law 263 = .ok (.iload_n 3, 1) := by decide +kernel
theorem dL_law_264 : decode cL_law 264 = .ok (.iconst 5, 1) := by decide +kernel
theorem dL_law_265 : decode cL_law 265 = .ok (.iadd, 1) := by decide +kernel
theorem dL_law_266 : decode cL_law 266 = .ok (.iaload, 1) := by decide +kernel
theorem dL_law_267 : decode cL_law 267 = .ok (.invokevirtual 17, 3) := by decide +kernel
theorem dL_law_270 : decode cL_law 270 = .ok (.if_icmp .eq 1195, 3) := by decide +kernel
theorem dL_law_273 : decode cL_law 273 = .ok (.iconst 0, 1) := by decide +kernel
theorem dL_law_274 : decode cL_law 274 = .ok (.ireturn, 1) := by decide +kernel
theorem dL_law_275 : decode cL_law 275 = .ok (.aload_n 1, 1) := by decide +kernel
theorem dL_law_276 : decode cL_law 276 = .ok (.aload_n 0, 1) := by decide +kernel
theorem dL_law_277 : decode cL_law 277 = .ok (.iload_n 3, 1) := by decide +kernel
theorem dL_law_278 : decode cL_law 278 = .ok (.iconst 1, 1) := by decide +kernel
theorem dL_law_279 : decode cL_law 279 = .ok (.iadd, 1) := by decide +kernel
theorem dL_law_280 : decode cL_law 280 = .ok (.iaload, 1) := by decide +kernel
theorem dL_law_281 : decode cL_law 281 = .ok (.invokevirtual 18, 3) := by decide +kernel
theorem dL_law_284 : decode cL_law 284 = .ok (.aload_n 2, 1) := by decide +kernel
theorem dL_law_285 : decode cL_law 285 = .ok (.aload_n 0, 1) := by decide +kernel
theorem dL_law_286 : decode cL_law 286 = .ok (.iload_n 3, 1) := by decide +kernel
theorem dL_law_287 : decode cL_law 287 = .ok (.iconst 1, 1) := by decide +kernel
theorem dL_law_288 : decode cL_law 288 = .ok (.iadd, 1) := by decide +kernel
theorem dL_law_289 : decode cL_law 289 = .ok (.iaload, 1) := by decide +kernel
theorem dL_law_290 : decode cL_law 290 = .ok (.invokevirtual 22, 3) := by decide +kernel
theorem dL_law_293 : decode cL_law 293 = .ok (.if_icmp .eq 1172, 3) := by decide +kernel
theorem dL_law_296 : decode cL_law 296 = .ok (.iconst 0, 1) := by decide +kernel
theorem dL_law_297 : decode cL_law 297 = .ok (.ireturn, 1) := by decide +kernel
theorem dL_law_298 : decode cL_law 298 = .ok (.aload_n 1, 1) := by decide +kernel
theorem dL_law_299 : decode cL_law 299 = .ok (.invokevirtual 23, 3) := by decide +kernel
theorem dL_law_302 : decode cL_law 302 = .ok (.aload_n 2, 1) := by decide +kernel
theorem dL_law_303 : decode cL_law 303 = .ok (.invokevirtual 27, 3) := by decide +kernel
theorem dL_law_306 : decode cL_law 306 = .ok (.if_icmp .eq 1159, 3) := by decide +kernel
theorem dL_law_309 : decode cL_law 309 = .ok (.iconst 0, 1) := by decide +kernel
theorem dL_law_310 : decode cL_law 310 = .ok (.ireturn, 1) := by decide +kernel
theorem dL_law_311 : decode cL_law 311 = .ok (.aload_n 1, 1) := by decide +kernel
theorem dL_law_312 : decode cL_law 312 = .ok (.invokevirtual 28, 3) := by decide +kernel
theorem dL_law_315 : decode cL_law 315 = .ok (.aload_n 2, 1) := by decide +kernel
theorem dL_law_316 : decode cL_law 316 = .ok (.invokevirtual 31, 3) := by decide +kernel
theorem dL_law_319 : decode cL_law 319 = .ok (.if_icmp .eq 1146, 3) := by decide +kernel
theorem dL_law_322 : decode cL_law 322 = .ok (.iconst 0, 1) := by decide +kernel
theorem dL_law_323 : decode cL_law 323 = .ok (.ireturn, 1) := by decide +kernel
theorem dL_law_324 : decode cL_law 324 = .ok (.aload_n 1, 1) := by decide +kernel
theorem dL_law_325 : decode cL_law 325 = .ok (.invokevirtual 32, 3) := by decide +kernel
theorem dL_law_328 : decode cL_law 328 = .ok (.aload_n 2, 1) := by decide +kernel
theorem dL_law_329 : decode cL_law 329 = .ok (.invokevirtual 35, 3) := by decide +kernel
theorem dL_law_332 : decode cL_law 332 = .ok (.if_icmp .eq 1133, 3) := by decide +kernel
theorem dL_law_335 : decode cL_law 335 = .ok (.iconst 0, 1) := by decide +kernel
theorem dL_law_336 : decode cL_law 336 = .ok (.ireturn, 1) := by decide +kernel
theorem dL_law_337 : decode cL_law 337 = .ok (.aload_n 1, 1) := by decide +kernel
theorem dL_law_338 : decode cL_law 338 = .ok (.aload_n 0, 1) := by decide +kernel
theorem dL_law_339 : decode cL_law 339 = .ok (.iload_n 3, 1) := by decide +kernel
theorem dL_law_340 : decode cL_law 340 = .ok (.iconst 1, 1) := by decide +kernel
theorem dL_law_341 : decode cL_law 341 = .ok (.iadd, 1) := by decide +kernel
theorem dL_law_342 : decode cL_law 342 = .ok (.iaload, 1) := by decide +kernel
theorem dL_law_343 : decode cL_law 343 = .ok (.invokevirtual 36, 3) := by decide +kernel
theorem dL_law_346 : decode cL_law 346 = .ok (.aload_n 2, 1) := by decide +kernel
theorem dL_law_347 : decode cL_law 347 = .ok (.aload_n 0, 1) := by decide +kernel
theorem dL_law_348 : decode cL_law 348 = .ok (.iload_n 3, 1) := by decide +kernel
theorem dL_law_349 : decode cL_law 349 = .ok (.iconst 1, 1) := by decide +kernel
theorem dL_law_350 : decode cL_law 350 = .ok (.iadd, 1) := by decide +kernel
theorem dL_law_351 : decode cL_law 351 = .ok (.iaload, 1) := by decide +kernel
theorem dL_law_352 : decode cL_law 352 = .ok (.invokevirtual 39, 3) := by decide +kernel
theorem dL_law_355 : decode cL_law 355 = .ok (.if_icmp .eq 1110, 3) := by decide +kernel
theorem dL_law_358 : decode cL_law 358 = .ok (.iconst 0, 1) := by decide +kernel
theorem dL_law_359 : decode cL_law 359 = .ok (.ireturn, 1) := by decide +kernel
theorem dL_law_360 : decode cL_law 360 = .ok (.aload_n 1, 1) := by decide +kernel
theorem dL_law_361 : decode cL_law 361 = .ok (.aload_n 0, 1) := by decide +kernel
theorem dL_law_362 : decode cL_law 362 = .ok (.iload_n 3, 1) := by decide +kernel
theorem dL_law_363 : decode cL_law 363 = .ok (.iconst 1, 1) := by decide +kernel
theorem dL_law_364 : decode cL_law 364 = .ok (.iadd, 1) := by decide +kernel
theorem dL_law_365 : decode cL_law 365 = .ok (.iaload, 1) := by decide +kernel
theorem dL_law_366 : decode cL_law 366 = .ok (.aload_n 0, 1) := by decide +kernel
theorem dL_law_367 : decode cL_law 367 = .ok (.iload_n 3, 1) := by decide +kernel
theorem dL_law_368 : decode cL_law 368 = .ok (.iconst 2, 1) := by decide +kernel
theorem dL_law_369 : decode cL_law 369 = .ok (.iadd, 1) := by decide +kernel
theorem dL_law_370 : decode cL_law 370 = .ok (.iaload, 1) := by decide +kernel
theorem dL_law_371 : decode cL_law 371 = .ok (.invokevirtual 40, 3) := by decide +kernel
theorem dL_law_374 : decode cL_law 374 = .ok (.aload_n 2, 1) := by decide +kernel
theorem dL_law_375 : decode cL_law 375 = .ok (.aload_n 0, 1) := by decide +kernel
theorem dL_law_376 : decode cL_law 376 = .ok (.iload_n 3, 1) := by decide +kernel
theorem dL_law_377 : decode cL_law 377 = .ok (.iconst 1, 1) := by decide +kernel
theorem dL_law_378 : decode cL_law 378 = .ok (.iadd, 1) := by decide +kernel
theorem dL_law_379 : decode cL_law 379 = .ok (.iaload, 1) := by decide +kernel
theorem dL_law_380 : decode cL_law 380 = .ok (.aload_n 0, 1) := by decide +kernel
theorem dL_law_381 : decode cL_law 381 = .ok (.iload_n 3, 1) := by decide +kernel
theorem dL_law_382 : decode cL_law 382 = .ok (.iconst 2, 1) := by decide +kernel
theorem dL_law_383 : decode cL_law 383 = .ok (.iadd, 1) := by decide +kernel
theorem dL_law_384 : decode cL_law 384 = .ok (.iaload, 1) := by decide +kernel
theorem dL_law_385 : decode cL_law 385 = .ok (.invokevirtual 44, 3) := by decide +kernel
theorem dL_law_388 : decode cL_law 388 = .ok (.if_icmp .eq 1077, 3) := by decide +kernel
theorem dL_law_391 : decode cL_law 391 = .ok (.iconst 0, 1) := by decide +kernel
theorem dL_law_392 : decode cL_law 392 = .ok (.ireturn, 1) := by decide +kernel
theorem dL_law_393 : decode cL_law 393 = .ok (.aload_n 1, 1) := by decide +kernel
theorem dL_law_394 : decode cL_law 394 = .ok (.aload_n 0, 1) := by decide +kernel
theorem dL_law_395 : decode cL_law 395 = .ok (.iload_n 3, 1) := by decide +kernel
theorem dL_law_396 : decode cL_law 396 = .ok (.iconst 1, 1) := by decide +kernel
theorem dL_law_397 : decode cL_law 397 = .ok (.iadd, 1) := by decide +kernel
theorem dL_law_398 : decode cL_law 398 = .ok (.iaload, 1) := by decide +kernel
theorem dL_law_399 : decode cL_law 399 = .ok (.invokevirtual 45, 3) := by decide +kernel
theorem dL_law_402 : decode cL_law 402 = .ok (.aload_n 2, 1) := by decide +kernel
theorem dL_law_403 : decode cL_law 403 = .ok (.aload_n 0, 1) := by decide +kernel
theorem dL_law_404 : decode cL_law 404 = .ok (.iload_n 3, 1) := by decide +kernel
theorem dL_law_405 : decode cL_law 405 = .ok (.iconst 1, 1) := by decide +kernel
theorem dL_law_406 : decode cL_law 406 = .ok (.iadd, 1) := by decide +kernel
theorem dL_law_407 : decode cL_law 407 = .ok (.iaload, 1) := by decide +kernel
theorem dL_law_408 : decode cL_law 408 = .ok (.invokevirtual 48, 3) := by decide +kernel
theorem dL_law_411 : decode cL_law 411 = .ok (.if_icmp .eq 1054, 3) := by decide +kernel
theorem dL_law_414 : decode cL_law 414 = .ok (.iconst 0, 1) := by decide +kernel
theorem dL_law_415 : decode cL_law 415 = .ok (.ireturn, 1) := by decide +kernel
theorem dL_law_416 : decode cL_law 416 = .ok (.aload_n 1, 1) := by decide +kernel
theorem dL_law_417 : decode cL_law 417 = .ok (.invokevirtual 49, 3) := by decide +kernel
theorem dL_law_420 : decode cL_law 420 = .ok (.aload_n 2, 1) := by decide +kernel
theorem dL_law_421 : decode cL_law 421 = .ok (.invokevirtual 52, 3) := by decide +kernel
theorem dL_law_424 : decode cL_law 424 = .ok (.if_icmp .eq 1041, 3) := by decide +kernel
theorem dL_law_427 : decode cL_law 427 = .ok (.iconst 0, 1) := by decide +kernel
theorem dL_law_428 : decode cL_law 428 = .ok (.ireturn, 1) := by decide +kernel
theorem dL_law_429 : decode cL_law 429 = .ok (.aload_n 1, 1) := by decide +kernel
theorem dL_law_430 : decode cL_law 430 = .ok (.aload_n 0, 1) := by decide +kernel
theorem dL_law_431 : decode cL_law 431 = .ok (.iload_n 3, 1) := by decide +kernel
theorem dL_law_432 : decode cL_law 432 = .ok (.iconst 1, 1) := by decide +kernel
theorem dL_law_433 : decode cL_law 433 = .ok (.iadd, 1) := by decide +kernel
theorem dL_law_434 : decode cL_law 434 = .ok (.iaload, 1) := by decide +kernel
theorem dL_law_435 : decode cL_law 435 = .ok (.invokevirtual 53, 3) := by decide +kernel
theorem dL_law_438 : decode cL_law 438 = .ok (.aload_n 2, 1) := by decide +kernel
theorem dL_law_439 : decode cL_law 439 = .ok (.aload_n 0, 1) := by decide +kernel
theorem dL_law_440 : decode cL_law 440 = .ok (.iload_n 3, 1) := by decide +kernel
theorem dL_law_441 : decode cL_law 441 = .ok (.iconst 1, 1) := by decide +kernel
theorem dL_law_442 : decode cL_law 442 = .ok (.iadd, 1) := by decide +kernel
theorem dL_law_443 : decode cL_law 443 = .ok (.iaload, 1) := by decide +kernel
theorem dL_law_444 : decode cL_law 444 = .ok (.invokevirtual 56, 3) := by decide +kernel
theorem dL_law_447 : decode cL_law 447 = .ok (.if_icmp .eq 1018, 3) := by decide +kernel
theorem dL_law_450 : decode cL_law 450 = .ok (.iconst 0, 1) := by decide +kernel
theorem dL_law_451 : decode cL_law 451 = .ok (.ireturn, 1) := by decide +kernel
theorem dL_law_452 : decode cL_law 452 = .ok (.aload_n 1, 1) := by decide +kernel
theorem dL_law_453 : decode cL_law 453 = .ok (.aload_n 0, 1) := by decide +kernel
theorem dL_law_454 : decode cL_law 454 = .ok (.iload_n 3, 1) := by decide +kernel
theorem dL_law_455 : decode cL_law 455 = .ok (.iconst 1, 1) := by decide +kernel
theorem dL_law_456 : decode cL_law 456 = .ok (.iadd, 1) := by decide +kernel
theorem dL_law_457 : decode cL_law 457 = .ok (.iaload, 1) := by decide +kernel
theorem dL_law_458 : decode cL_law 458 = .ok (.invokevirtual 57, 3) := by decide +kernel
theorem dL_law_461 : decode cL_law 461 = .ok (.aload_n 2, 1) := by decide +kernel
theorem dL_law_462 : decode cL_law 462 = .ok (.aload_n 0, 1) := by decide +kernel
theorem dL_law_463 : decode cL_law 463 = .ok (.iload_n 3, 1) := by decide +kernel
theorem dL_law_464 : decode cL_law 464 = .ok (.iconst 1, 1) := by decide +kernel
theorem dL_law_465 : decode cL_law 465 = .ok (.iadd, 1) := by decide +kernel
theorem dL_law_466 : decode cL_law 466 = .ok (.iaload, 1) := by decide +kernel
theorem dL_law_467 : decode cL_law 467 = .ok (.invokevirtual 61, 3) := by decide +kernel
theorem dL_law_470 : decode cL_law 470 = .ok (.if_icmp .eq 995, 3) := by decide +kernel
theorem dL_law_473 : decode cL_law 473 = .ok (.iconst 0, 1) := by decide +kernel
theorem dL_law_474 : decode cL_law 474 = .ok (.ireturn, 1) := by decide +kernel
theorem dL_law_475 : decode cL_law 475 = .ok (.aload_n 1, 1) := by decide +kernel
theorem dL_law_476 : decode cL_law 476 = .ok (.aload_n 0, 1) := by decide +kernel
theorem dL_law_477 : decode cL_law 477 = .ok (.iload_n 3, 1) := by decide +kernel
theorem dL_law_478 : decode cL_law 478 = .ok (.iconst 1, 1) := by decide +kernel
theorem dL_law_479 : decode cL_law 479 = .ok (.iadd, 1) := by decide +kernel
theorem dL_law_480 : decode cL_law 480 = .ok (.iaload, 1) := by decide +kernel
theorem dL_law_481 : decode cL_law 481 = .ok (.aload_n 0, 1) := by decide +kernel
theorem dL_law_482 : decode cL_law 482 = .ok (.iload_n 3, 1) := by decide +kernel
theorem dL_law_483 : decode cL_law 483 = .ok (.iconst 2, 1) := by decide +kernel
theorem dL_law_484 : decode cL_law 484 = .ok (.iadd, 1) := by decide +kernel
theorem dL_law_485 : decode cL_law 485 = .ok (.iaload, 1) := by decide +kernel
theorem dL_law_486 : decode cL_law 486 = .ok (.invokevirtual 62, 3) := by decide +kernel
theorem dL_law_489 : decode cL_law 489 = .ok (.aload_n 2, 1) := by decide +kernel
theorem dL_law_490 : decode cL_law 490 = .ok (.aload_n 0, 1) := by decide +kernel
theorem dL_law_491 : decode cL_law 491 = .ok (.iload_n 3, 1) := by decide +kernel
theorem dL_law_492 : decode cL_law 492 = .ok (.iconst 1, 1) := by decide +kernel
theorem dL_law_493 : decode cL_law 493 = .ok (.iadd, 1) := by decide +kernel
theorem dL_law_494 : decode cL_law 494 = .ok (.iaload, 1) := by decide +kernel
theorem dL_law_495 : decode cL_law 495 = .ok (.aload_n 0, 1) := by decide +kernel
theorem dL_law_496 : decode cL_law 496 = .ok (.iload_n 3, 1) := by decide +kernel
theorem dL_law_497 : decode cL_law 497 = .ok (.iconst 2, 1) := by decide +kernel
theorem dL_law_498 : decode cL_law 498 = .ok (.iadd, 1) := by decide +kernel
theorem dL_law_499 : decode cL_law 499 = .ok (.iaload, 1) := by decide +kernel
theorem dL_law_500 : decode cL_law 500 = .ok (.invokevirtual 66, 3) := by decide +kernel
theorem dL_law_503 : decode cL_law 503 = .ok (.if_icmp .eq 962, 3) := by decide +kernel
theorem dL_law_506 : decode cL_law 506 = .ok (.iconst 0, 1) := by decide +kernel
theorem dL_law_507 : decode cL_law 507 = .ok (.ireturn, 1) := by decide +kernel
theorem dL_law_508 : decode cL_law 508 = .ok (.aload_n 1, 1) := by decide +kernel
theorem dL_law_509 : decode cL_law 509 = .ok (.invokevirtual 67, 3) := by decide +kernel
theorem dL_law_512 : decode cL_law 512 = .ok (.aload_n 2, 1) := by decide +kernel
theorem dL_law_513 : decode cL_law 513 = .ok (.invokevirtual 71, 3) := by decide +kernel
theorem dL_law_516 : decode cL_law 516 = .ok (.if_icmp .eq 949, 3) := by decide +kernel
theorem dL_law_519 : decode cL_law 519 = .ok (.iconst 0, 1) := by decide +kernel
theorem dL_law_520 : decode cL_law 520 = .ok (.ireturn, 1) := by decide +kernel
theorem dL_law_521 : decode cL_law 521 = .ok (.aload_n 1, 1) := by decide +kernel
theorem dL_law_522 : decode cL_law 522 = .ok (.aload_n 0, 1) := by decide +kernel
theorem dL_law_523 : decode cL_law 523 = .ok (.iload_n 3, 1) := by decide +kernel
theorem dL_law_524 : decode cL_law 524 = .ok (.iconst 1, 1) := by decide +kernel
theorem dL_law_525 : decode cL_law 525 = .ok (.iadd, 1) := by decide +kernel
theorem dL_law_526 : decode cL_law 526 = .ok (.iaload, 1) := by decide +kernel
theorem dL_law_527 : decode cL_law 527 = .ok (.aload_n 0, 1) := by decide +kernel
theorem dL_law_528 : decode cL_law 528 = .ok (.iload_n 3, 1) := by decide +kernel
theorem dL_law_529 : decode cL_law 529 = .ok (.iconst 2, 1) := by decide +kernel
theorem dL_law_530 : decode cL_law 530 = .ok (.iadd, 1) := by decide +kernel
theorem dL_law_531 : decode cL_law 531 = .ok (.iaload, 1) := by decide +kernel
theorem dL_law_532 : decode cL_law 532 = .ok (.aload_n 0, 1) := by decide +kernel
theorem dL_law_533 : decode cL_law 533 = .ok (.iload_n 3, 1) := by decide +kernel
theorem dL_law_534 : decode cL_law 534 = .ok (.iconst 3, 1) := by decide +kernel
theorem dL_law_535 : decode cL_law 535 = .ok (.iadd, 1) := by decide +kernel
theorem dL_law_536 : decode cL_law 536 = .ok (.iaload, 1) := by decide +kernel
theorem dL_law_537 : decode cL_law 537 = .ok (.invokevirtual 72, 3) := by decide +kernel
theorem dL_law_540 : decode cL_law 540 = .ok (.aload_n 2, 1) := by decide +kernel
theorem dL_law_541 : decode cL_law 541 = .ok (.aload_n 0, 1) := by decide +kernel
theorem dL_law_542 : decode cL_law 542 = .ok (.iload_n 3, 1) := by decide +kernel
theorem dL_law_543 : decode cL_law 543 = .ok (.iconst 1, 1) := by decide +kernel
theorem dL_law_544 : decode cL_law 544 = .ok (.iadd, 1) := by decide +kernel
theorem dL_law_545 : decode cL_law 545 = .ok (.iaload, 1) := by decide +kernel
theorem dL_law_546 : decode cL_law 546 = .ok (.aload_n 0, 1) := by decide +kernel
theorem dL_law_547 : decode cL_law 547 = .ok (.iload_n 3, 1) := by decide +kernel
theorem dL_law_548 : decode cL_law 548 = .ok (.iconst 2, 1) := by decide +kernel
theorem dL_law_549 : decode cL_law 549 = .ok (.iadd, 1) := by decide +kernel
theorem dL_law_550 : decode cL_law 550 = .ok (.iaload, 1) := by decide +kernel
theorem dL_law_551 : decode cL_law 551 = .ok (.aload_n 0, 1) := by decide +kernel
theorem dL_law_552 : decode cL_law 552 = .ok (.iload_n 3, 1) := by decide +kernel
theorem dL_law_553 : decode cL_law 553 = .ok (.iconst 3, 1) := by decide +kernel
theorem dL_law_554 : decode cL_law 554 = .ok (.iadd, 1) := by decide +kernel
theorem dL_law_555 : decode cL_law 555 = .ok (.iaload, 1) := by decide +kernel
theorem dL_law_556 : decode cL_law 556 = .ok (.invokevirtual 76, 3) := by decide +kernel
theorem dL_law_559 : decode cL_law 559 = .ok (.if_icmp .eq 906, 3) := by decide +kernel
theorem dL_law_562 : decode cL_law 562 = .ok (.iconst 0, 1) := by decide +kernel
theorem dL_law_563 : decode cL_law 563 = .ok (.ireturn, 1) := by decide +kernel
theorem dL_law_564 : decode cL_law 564 = .ok (.aload_n 1, 1) := by decide +kernel
theorem dL_law_565 : decode cL_law 565 = .ok (.aload_n 0, 1) := by decide +kernel
theorem dL_law_566 : decode cL_law 566 = .ok (.iload_n 3, 1) := by decide +kernel
theorem dL_law_567 : decode cL_law 567 = .ok (.iconst 1, 1) := by decide +kernel
theorem dL_law_568 : decode cL_law 568 = .ok (.iadd, 1) := by decide +kernel
theorem dL_law_569 : decode cL_law 569 = .ok (.iaload, 1) := by decide +kernel
theorem dL_law_570 : decode cL_law 570 = .ok (.aload_n 0, 1) := by decide +kernel
theorem dL_law_571 : decode cL_law 571 = .ok (.iload_n 3, 1) := by decide +kernel
theorem dL_law_572 : decode cL_law 572 = .ok (.iconst 2, 1) := by decide +kernel
theorem dL_law_573 : decode cL_law 573 = .ok (.iadd, 1) := by decide +kernel
theorem dL_law_574 : decode cL_law 574 = .ok (.iaload, 1) := by decide +kernel
theorem dL_law_575 : decode cL_law 575 = .ok (.aload_n 0, 1) := by decide +kernel
theorem dL_law_576 : decode cL_law 576 = .ok (.iload_n 3, 1) := by decide +kernel
theorem dL_law_577 : decode cL_law 577 = .ok (.iconst 3, 1) := by decide +kernel
theorem dL_law_578 : decode cL_law 578 = .ok (.iadd, 1) := by decide +kernel
theorem dL_law_579 : decode cL_law 579 = .ok (.iaload, 1) := by decide +kernel
theorem dL_law_580 : decode cL_law 580 = .ok (.invokevirtual 77, 3) := by decide +kernel
theorem dL_law_583 : decode cL_law 583 = .ok (.aload_n 2, 1) := by decide +kernel
theorem dL_law_584 : decode cL_law 584 = .ok (.aload_n 0, 1) := by decide +kernel
theorem dL_law_585 : decode cL_law 585 = .ok (.iload_n 3, 1) := by decide +kernel
theorem dL_law_586 : decode cL_law 586 = .ok (.iconst 1, 1) := by decide +kernel
theorem dL_law_587 : decode cL_law 587 = .ok (.iadd, 1) := by decide +kernel
theorem dL_law_588 : decode cL_law 588 = .ok (.iaload, 1) := by decide +kernel
theorem dL_law_589 : decode cL_law 589 = .ok (.aload_n 0, 1) := by decide +kernel
theorem dL_law_590 : decode cL_law 590 = .ok (.iload_n 3, 1) := by decide +kernel
theorem dL_law_591 : decode cL_law 591 = .ok (.iconst 2, 1) := by decide +kernel
theorem dL_law_592 : decode cL_law 592 = .ok (.iadd, 1) := by decide +kernel
theorem dL_law_593 : decode cL_law 593 = .ok (.iaload, 1) := by decide +kernel
theorem dL_law_594 : decode cL_law 594 = .ok (.aload_n 0, 1) := by decide +kernel
theorem dL_law_595 : decode cL_law 595 = .ok (.iload_n 3, 1) := by decide +kernel
theorem dL_law_596 : decode cL_law 596 = .ok (.iconst 3, 1) := by decide +kernel
theorem dL_law_597 : decode cL_law 597 = .ok (.iadd, 1) := by decide +kernel
theorem dL_law_598 : decode cL_law 598 = .ok (.iaload, 1) := by decide +kernel
theorem dL_law_599 : decode cL_law 599 = .ok (.invokevirtual 80, 3) := by decide +kernel
theorem dL_law_602 : decode cL_law 602 = .ok (.if_icmp .eq 863, 3) := by decide +kernel
theorem dL_law_605 : decode cL_law 605 = .ok (.iconst 0, 1) := by decide +kernel
theorem dL_law_606 : decode cL_law 606 = .ok (.ireturn, 1) := by decide +kernel
theorem dL_law_607 : decode cL_law 607 = .ok (.aload_n 1, 1) := by decide +kernel
theorem dL_law_608 : decode cL_law 608 = .ok (.aload_n 0, 1) := by decide +kernel
theorem dL_law_609 : decode cL_law 609 = .ok (.iload_n 3, 1) := by decide +kernel
theorem dL_law_610 : decode cL_law 610 = .ok (.iconst 1, 1) := by decide +kernel
theorem dL_law_611 : decode cL_law 611 = .ok (.iadd, 1) := by decide +kernel
theorem dL_law_612 : decode cL_law 612 = .ok (.iaload, 1) := by decide +kernel
theorem dL_law_613 : decode cL_law 613 = .ok (.aload_n 0, 1) := by decide +kernel
theorem dL_law_614 : decode cL_law 614 = .ok (.iload_n 3, 1) := by decide +kernel
theorem dL_law_615 : decode cL_law 615 = .ok (.iconst 2, 1) := by decide +kernel
theorem dL_law_616 : decode cL_law 616 = .ok (.iadd, 1) := by decide +kernel
theorem dL_law_617 : decode cL_law 617 = .ok (.iaload, 1) := by decide +kernel
theorem dL_law_618 : decode cL_law 618 = .ok (.invokevirtual 81, 3) := by decide +kernel
theorem dL_law_621 : decode cL_law 621 = .ok (.aload_n 2, 1) := by decide +kernel
theorem dL_law_622 : decode cL_law 622 = .ok (.aload_n 0, 1) := by decide +kernel
theorem dL_law_623 : decode cL_law 623 = .ok (.iload_n 3, 1) := by decide +kernel
theorem dL_law_624 : decode cL_law 624 = .ok (.iconst 1, 1) := by decide +kernel
theorem dL_law_625 : decode cL_law 625 = .ok (.iadd, 1) := by decide +kernel
theorem dL_law_626 : decode cL_law 626 = .ok (.iaload, 1) := by decide +kernel
theorem dL_law_627 : decode cL_law 627 = .ok (.aload_n 0, 1) := by decide +kernel
theorem dL_law_628 : decode cL_law 628 = .ok (.iload_n 3, 1) := by decide +kernel
theorem dL_law_629 : decode cL_law 629 = .ok (.iconst 2, 1) := by decide +kernel
theorem dL_law_630 : decode cL_law 630 = .ok (.iadd, 1) := by decide +kernel
theorem dL_law_631 : decode cL_law 631 = .ok (.iaload, 1) := by decide +kernel
theorem dL_law_632 : decode cL_law 632 = .ok (.invokevirtual 84, 3) := by decide +kernel
theorem dL_law_635 : decode cL_law 635 = .ok (.if_icmp .eq 830, 3) := by decide +kernel
theorem dL_law_638 : decode cL_law 638 = .ok (.iconst 0, 1) := by decide +kernel
theorem dL_law_639 : decode cL_law 639 = .ok (.ireturn, 1) := by decide +kernel
theorem dL_law_640 : decode cL_law 640 = .ok (.aload_n 1, 1) := by decide +kernel
theorem dL_law_641 : decode cL_law 641 = .ok (.aload_n 0, 1) := by decide +kernel
theorem dL_law_642 : decode cL_law 642 = .ok (.iload_n 3, 1) := by decide +kernel
theorem dL_law_643 : decode cL_law 643 = .ok (.iconst 1, 1) := by decide +kernel
theorem dL_law_644 : decode cL_law 644 = .ok (.iadd, 1) := by decide +kernel
theorem dL_law_645 : decode cL_law 645 = .ok (.iaload, 1) := by decide +kernel
theorem dL_law_646 : decode cL_law 646 = .ok (.aload_n 0, 1) := by decide +kernel
theorem dL_law_647 : decode cL_law 647 = .ok (.iload_n 3, 1) := by decide +kernel
theorem dL_law_648 : decode cL_law 648 = .ok (.iconst 2, 1) := by decide +kernel
theorem dL_law_649 : decode cL_law 649 = .ok (.iadd, 1) := by decide +kernel
theorem dL_law_650 : decode cL_law 650 = .ok (.iaload, 1) := by decide +kernel
theorem dL_law_651 : decode cL_law 651 = .ok (.aload_n 0, 1) := by decide +kernel
theorem dL_law_652 : decode cL_law 652 = .ok (.iload_n 3, 1) := by decide +kernel
theorem dL_law_653 : decode cL_law 653 = .ok (.iconst 3, 1) := by decide +kernel
theorem dL_law_654 : decode cL_law 654 = .ok (.iadd, 1) := by decide +kernel
theorem dL_law_655 : decode cL_law 655 = .ok (.iaload, 1) := by decide +kernel
theorem dL_law_656 : decode cL_law 656 = .ok (.invokevirtual 85, 3) := by decide +kernel
theorem dL_law_659 : decode cL_law 659 = .ok (.aload_n 2, 1) := by decide +kernel
theorem dL_law_660 : decode cL_law 660 = .ok (.aload_n 0, 1) := by decide +kernel
theorem dL_law_661 : decode cL_law 661 = .ok (.iload_n 3, 1) := by decide +kernel
theorem dL_law_662 : decode cL_law 662 = .ok (.iconst 1, 1) := by decide +kernel
theorem dL_law_663 : decode cL_law 663 = .ok (.iadd, 1) := by decide +kernel
theorem dL_law_664 : decode cL_law 664 = .ok (.iaload, 1) := by decide +kernel
theorem dL_law_665 : decode cL_law 665 = .ok (.aload_n 0, 1) := by decide +kernel
theorem dL_law_666 : decode cL_law 666 = .ok (.iload_n 3, 1) := by decide +kernel
theorem dL_law_667 : decode cL_law 667 = .ok (.iconst 2, 1) := by decide +kernel
theorem dL_law_668 : decode cL_law 668 = .ok (.iadd, 1) := by decide +kernel
theorem dL_law_669 : decode cL_law 669 = .ok (.iaload, 1) := by decide +kernel
theorem dL_law_670 : decode cL_law 670 = .ok (.aload_n 0, 1) := by decide +kernel
theorem dL_law_671 : decode cL_law 671 = .ok (.iload_n 3, 1) := by decide +kernel
theorem dL_law_672 : decode cL_law 672 = .ok (.iconst 3, 1) := by decide +kernel
theorem dL_law_673 : decode cL_law 673 = .ok (.iadd, 1) := by decide +kernel
theorem dL_law_674 : decode cL_law 674 = .ok (.iaload, 1) := by decide +kernel
theorem dL_law_675 : decode cL_law 675 = .ok (.invokevirtual 88, 3) := by decide +kernel
theorem dL_law_678 : decode cL_law 678 = .ok (.if_icmp .eq 787, 3) := by decide +kernel
theorem dL_law_681 : decode cL_law 681 = .ok (.iconst 0, 1) := by decide +kernel
theorem dL_law_682 : decode cL_law 682 = .ok (.ireturn, 1) := by decide +kernel
theorem dL_law_683 : decode cL_law 683 = .ok (.aload_n 1, 1) := by decide +kernel
theorem dL_law_684 : decode cL_law 684 = .ok (.aload_n 0, 1) := by decide +kernel
theorem dL_law_685 : decode cL_law 685 = .ok (.iload_n 3, 1) := by decide +kernel
theorem dL_law_686 : decode cL_law 686 = .ok (.iconst 1, 1) := by decide +kernel
theorem dL_law_687 : decode cL_law 687 = .ok (.iadd, 1) := by decide +kernel
theorem dL_law_688 : decode cL_law 688 = .ok (.iaload, 1) := by decide +kernel
theorem dL_law_689 : decode cL_law 689 = .ok (.aload_n 0, 1) := by decide +kernel
theorem dL_law_690 : decode cL_law 690 = .ok (.iload_n 3, 1) := by decide +kernel
theorem dL_law_691 : decode cL_law 691 = .ok (.iconst 2, 1) := by decide +kernel
theorem dL_law_692 : decode cL_law 692 = .ok (.iadd, 1) := by decide +kernel
theorem dL_law_693 : decode cL_law 693 = .ok (.iaload, 1) := by decide +kernel
theorem dL_law_694 : decode cL_law 694 = .ok (.aload_n 0, 1) := by decide +kernel
theorem dL_law_695 : decode cL_law 695 = .ok (.iload_n 3, 1) := by decide +kernel
theorem dL_law_696 : decode cL_law 696 = .ok (.iconst 3, 1) := by decide +kernel
theorem dL_law_697 : decode cL_law 697 = .ok (.iadd, 1) := by decide +kernel
theorem dL_law_698 : decode cL_law 698 = .ok (.iaload, 1) := by decide +kernel
theorem dL_law_699 : decode cL_law 699 = .ok (.aload_n 0, 1) := by decide +kernel
theorem dL_law_700 : decode cL_law 700 = .ok (.iload_n 3, 1) := by decide +kernel
theorem dL_law_701 : decode cL_law 701 = .ok (.iconst 4, 1) := by decide +kernel
theorem dL_law_702 : decode cL_law 702 = .ok (.iadd, 1) := by decide +kernel
theorem dL_law_703 : decode cL_law 703 = .ok (.iaload, 1) := by decide +kernel
theorem dL_law_704 : decode cL_law 704 = .ok (.invokevirtual 89, 3) := by decide +kernel
theorem dL_law_707 : decode cL_law 707 = .ok (.aload_n 2, 1) := by decide +kernel
theorem dL_law_708 : decode cL_law 708 = .ok (.aload_n 0, 1) := by decide +kernel
theorem dL_law_709 : decode cL_law 709 = .ok (.iload_n 3, 1) := by decide +kernel
theorem dL_law_710 : decode cL_law 710 = .ok (.iconst 1, 1) := by decide +kernel
theorem dL_law_711 : decode cL_law 711 = .ok (.iadd, 1) := by decide +kernel
theorem dL_law_712 : decode cL_law 712 = .ok (.iaload, 1) := by decide +kernel
theorem dL_law_713 : decode cL_law 713 = .ok (.aload_n 0, 1) := by decide +kernel
theorem dL_law_714 : decode cL_law 714 = .ok (.iload_n 3, 1) := by decide +kernel
theorem dL_law_715 : decode cL_law 715 = .ok (.iconst 2, 1) := by decide +kernel
theorem dL_law_716 : decode cL_law 716 = .ok (.iadd, 1) := by decide +kernel
theorem dL_law_717 : decode cL_law 717 = .ok (.iaload, 1) := by decide +kernel
theorem dL_law_718 : decode cL_law 718 = .ok (.aload_n 0, 1) := by decide +kernel
theorem dL_law_719 : decode cL_law 719 = .ok (.iload_n 3, 1) := by decide +kernel
theorem dL_law_720 : decode cL_law 720 = .ok (.iconst 3, 1) := by decide +kernel
theorem dL_law_721 : decode cL_law 721 = .ok (.iadd, 1) := by decide +kernel
theorem dL_law_722 : decode cL_law 722 = .ok (.iaload, 1) := by decide +kernel
theorem dL_law_723 : decode cL_law 723 = .ok (.aload_n 0, 1) := by decide +kernel
theorem dL_law_724 : decode cL_law 724 = .ok (.iload_n 3, 1) := by decide +kernel
theorem dL_law_725 : decode cL_law 725 = .ok (.iconst 4, 1) := by decide +kernel
theorem dL_law_726 : decode cL_law 726 = .ok (.iadd, 1) := by decide +kernel
theorem dL_law_727 : decode cL_law 727 = .ok (.iaload, 1) := by decide +kernel
theorem dL_law_728 : decode cL_law 728 = .ok (.invokevirtual 93, 3) := by decide +kernel
theorem dL_law_731 : decode cL_law 731 = .ok (.if_icmp .eq 734, 3) := by decide +kernel
theorem dL_law_734 : decode cL_law 734 = .ok (.iconst 0, 1) := by decide +kernel
theorem dL_law_735 : decode cL_law 735 = .ok (.ireturn, 1) := by decide +kernel
theorem dL_law_736 : decode cL_law 736 = .ok (.aload_n 1, 1) := by decide +kernel
theorem dL_law_737 : decode cL_law 737 = .ok (.aload_n 0, 1) := by decide +kernel
theorem dL_law_738 : decode cL_law 738 = .ok (.iload_n 3, 1) := by decide +kernel
theorem dL_law_739 : decode cL_law 739 = .ok (.iconst 1, 1) := by decide +kernel
theorem dL_law_740 : decode cL_law 740 = .ok (.iadd, 1) := by decide +kernel
theorem dL_law_741 : decode cL_law 741 = .ok (.iaload, 1) := by decide +kernel
theorem dL_law_742 : decode cL_law 742 = .ok (.aload_n 0, 1) := by decide +kernel
theorem dL_law_743 : decode cL_law 743 = .ok (.iload_n 3, 1) := by decide +kernel
theorem dL_law_744 : decode cL_law 744 = .ok (.iconst 2, 1) := by decide +kernel
theorem dL_law_745 : decode cL_law 745 = .ok (.iadd, 1) := by decide +kernel
theorem dL_law_746 : decode cL_law 746 = .ok (.iaload, 1) := by decide +kernel
theorem dL_law_747 : decode cL_law 747 = .ok (.invokevirtual 94, 3) := by decide +kernel
theorem dL_law_750 : decode cL_law 750 = .ok (.aload_n 2, 1) := by decide +kernel
theorem dL_law_751 : decode cL_law 751 = .ok (.aload_n 0, 1) := by decide +kernel
theorem dL_law_752 : decode cL_law 752 = .ok (.iload_n 3, 1) := by decide +kernel
theorem dL_law_753 : decode cL_law 753 = .ok (.iconst 1, 1) := by decide +kernel
theorem dL_law_754 : decode cL_law 754 = .ok (.iadd, 1) := by decide +kernel
theorem dL_law_755 : decode cL_law 755 = .ok (.iaload, 1) := by decide +kernel
theorem dL_law_756 : decode cL_law 756 = .ok (.aload_n 0, 1) := by decide +kernel
theorem dL_law_757 : decode cL_law 757 = .ok (.iload_n 3, 1) := by decide +kernel
theorem dL_law_758 : decode cL_law 758 = .ok (.iconst 2, 1) := by decide +kernel
theorem dL_law_759 : decode cL_law 759 = .ok (.iadd, 1) := by decide +kernel
theorem dL_law_760 : decode cL_law 760 = .ok (.iaload, 1) := by decide +kernel
theorem dL_law_761 : decode cL_law 761 = .ok (.invokevirtual 97, 3) := by decide +kernel
theorem dL_law_764 : decode cL_law 764 = .ok (.if_icmp .eq 701, 3) := by decide +kernel
theorem dL_law_767 : decode cL_law 767 = .ok (.iconst 0, 1) := by decide +kernel
theorem dL_law_768 : decode cL_law 768 = .ok (.ireturn, 1) := by decide +kernel
theorem dL_law_769 : decode cL_law 769 = .ok (.aload_n 1, 1) := by decide +kernel
theorem dL_law_770 : decode cL_law 770 = .ok (.aload_n 0, 1) := by decide +kernel
theorem dL_law_771 : decode cL_law 771 = .ok (.iload_n 3, 1) := by decide +kernel
theorem dL_law_772 : decode cL_law 772 = .ok (.iconst 1, 1) := by decide +kernel
theorem dL_law_773 : decode cL_law 773 = .ok (.iadd, 1) := by decide +kernel
theorem dL_law_774 : decode cL_law 774 = .ok (.iaload, 1) := by decide +kernel
theorem dL_law_775 : decode cL_law 775 = .ok (.aload_n 0, 1) := by decide +kernel
theorem dL_law_776 : decode cL_law 776 = .ok (.iload_n 3, 1) := by decide +kernel
theorem dL_law_777 : decode cL_law 777 = .ok (.iconst 2, 1) := by decide +kernel
theorem dL_law_778 : decode cL_law 778 = .ok (.iadd, 1) := by decide +kernel
theorem dL_law_779 : decode cL_law 779 = .ok (.iaload, 1) := by decide +kernel
theorem dL_law_780 : decode cL_law 780 = .ok (.invokevirtual 98, 3) := by decide +kernel
theorem dL_law_783 : decode cL_law 783 = .ok (.aload_n 2, 1) := by decide +kernel
theorem dL_law_784 : decode cL_law 784 = .ok (.aload_n 0, 1) := by decide +kernel
theorem dL_law_785 : decode cL_law 785 = .ok (.iload_n 3, 1) := by decide +kernel
theorem dL_law_786 : decode cL_law 786 = .ok (.iconst 1, 1) := by decide +kernel
theorem dL_law_787 : decode cL_law 787 = .ok (.iadd, 1) := by decide +kernel
theorem dL_law_788 : decode cL_law 788 = .ok (.iaload, 1) := by decide +kernel
theorem dL_law_789 : decode cL_law 789 = .ok (.aload_n 0, 1) := by decide +kernel
theorem dL_law_790 : decode cL_law 790 = .ok (.iload_n 3, 1) := by decide +kernel
theorem dL_law_791 : decode cL_law 791 = .ok (.iconst 2, 1) := by decide +kernel
theorem dL_law_792 : decode cL_law 792 = .ok (.iadd, 1) := by decide +kernel
theorem dL_law_793 : decode cL_law 793 = .ok (.iaload, 1) := by decide +kernel
theorem dL_law_794 : decode cL_law 794 = .ok (.invokevirtual 101, 3) := by decide +kernel
theorem dL_law_797 : decode cL_law 797 = .ok (.if_icmp .eq 668, 3) := by decide +kernel
theorem dL_law_800 : decode cL_law 800 = .ok (.iconst 0, 1) := by decide +kernel
theorem dL_law_801 : decode cL_law 801 = .ok (.ireturn, 1) := by decide +kernel
theorem dL_law_802 : decode cL_law 802 = .ok (.aload_n 1, 1) := by decide +kernel
theorem dL_law_803 : decode cL_law 803 = .ok (.aload_n 0, 1) := by decide +kernel
theorem dL_law_804 : decode cL_law 804 = .ok (.iload_n 3, 1) := by decide +kernel
theorem dL_law_805 : decode cL_law 805 = .ok (.iconst 1, 1) := by decide +kernel
theorem dL_law_806 : decode cL_law 806 = .ok (.iadd, 1) := by decide +kernel
theorem dL_law_807 : decode cL_law 807 = .ok (.iaload, 1) := by decide +kernel
theorem dL_law_808 : decode cL_law 808 = .ok (.aload_n 0, 1) := by decide +kernel
theorem dL_law_809 : decode cL_law 809 = .ok (.iload_n 3, 1) := by decide +kernel
theorem dL_law_810 : decode cL_law 810 = .ok (.iconst 2, 1) := by decide +kernel
theorem dL_law_811 : decode cL_law 811 = .ok (.iadd, 1) := by decide +kernel
theorem dL_law_812 : decode cL_law 812 = .ok (.iaload, 1) := by decide +kernel
theorem dL_law_813 : decode cL_law 813 = .ok (.aload_n 0, 1) := by decide +kernel
theorem dL_law_814 : decode cL_law 814 = .ok (.iload_n 3, 1) := by decide +kernel
theorem dL_law_815 : decode cL_law 815 = .ok (.iconst 3, 1) := by decide +kernel
theorem dL_law_816 : decode cL_law 816 = .ok (.iadd, 1) := by decide +kernel
theorem dL_law_817 : decode cL_law 817 = .ok (.iaload, 1) := by decide +kernel
theorem dL_law_818 : decode cL_law 818 = .ok (.invokevirtual 102, 3) := by decide +kernel
theorem dL_law_821 : decode cL_law 821 = .ok (.aload_n 2, 1) := by decide +kernel
theorem dL_law_822 : decode cL_law 822 = .ok (.aload_n 0, 1) := by decide +kernel
theorem dL_law_823 : decode cL_law 823 = .ok (.iload_n 3, 1) := by decide +kernel
theorem dL_law_824 : decode cL_law 824 = .ok (.iconst 1, 1) := by decide +kernel
theorem dL_law_825 : decode cL_law 825 = .ok (.iadd, 1) := by decide +kernel
theorem dL_law_826 : decode cL_law 826 = .ok (.iaload, 1) := by decide +kernel
theorem dL_law_827 : decode cL_law 827 = .ok (.aload_n 0, 1) := by decide +kernel
theorem dL_law_828 : decode cL_law 828 = .ok (.iload_n 3, 1) := by decide +kernel
theorem dL_law_829 : decode cL_law 829 = .ok (.iconst 2, 1) := by decide +kernel
theorem dL_law_830 : decode cL_law 830 = .ok (.iadd, 1) := by decide +kernel
theorem dL_law_831 : decode cL_law 831 = .ok (.iaload, 1) := by decide +kernel
theorem dL_law_832 : decode cL_law 832 = .ok (.aload_n 0, 1) := by decide +kernel
theorem dL_law_833 : decode cL_law 833 = .ok (.iload_n 3, 1) := by decide +kernel
theorem dL_law_834 : decode cL_law 834 = .ok (.iconst 3, 1) := by decide +kernel
theorem dL_law_835 : decode cL_law 835 = .ok (.iadd, 1) := by decide +kernel
theorem dL_law_836 : decode cL_law 836 = .ok (.iaload, 1) := by decide +kernel
theorem dL_law_837 : decode cL_law 837 = .ok (.invokevirtual 105, 3) := by decide +kernel
theorem dL_law_840 : decode cL_law 840 = .ok (.if_icmp .eq 625, 3) := by decide +kernel
theorem dL_law_843 : decode cL_law 843 = .ok (.iconst 0, 1) := by decide +kernel
theorem dL_law_844 : decode cL_law 844 = .ok (.ireturn, 1) := by decide +kernel
theorem dL_law_845 : decode cL_law 845 = .ok (.aload_n 1, 1) := by decide +kernel
theorem dL_law_846 : decode cL_law 846 = .ok (.aload_n 0, 1) := by decide +kernel
theorem dL_law_847 : decode cL_law 847 = .ok (.iload_n 3, 1) := by decide +kernel
theorem dL_law_848 : decode cL_law 848 = .ok (.iconst 1, 1) := by decide +kernel
theorem dL_law_849 : decode cL_law 849 = .ok (.iadd, 1) := by decide +kernel
theorem dL_law_850 : decode cL_law 850 = .ok (.iaload, 1) := by decide +kernel
theorem dL_law_851 : decode cL_law 851 = .ok (.aload_n 0, 1) := by decide +kernel
theorem dL_law_852 : decode cL_law 852 = .ok (.iload_n 3, 1) := by decide +kernel
theorem dL_law_853 : decode cL_law 853 = .ok (.iconst 2, 1) := by decide +kernel
theorem dL_law_854 : decode cL_law 854 = .ok (.iadd, 1) := by decide +kernel
theorem dL_law_855 : decode cL_law 855 = .ok (.iaload, 1) := by decide +kernel
theorem dL_law_856 : decode cL_law 856 = .ok (.invokevirtual 106, 3) := by decide +kernel
theorem dL_law_859 : decode cL_law 859 = .ok (.aload_n 2, 1) := by decide +kernel
theorem dL_law_860 : decode cL_law 860 = .ok (.aload_n 0, 1) := by decide +kernel
theorem dL_law_861 : decode cL_law 861 = .ok (.iload_n 3, 1) := by decide +kernel
theorem dL_law_862 : decode cL_law 862 = .ok (.iconst 1, 1) := by decide +kernel
theorem dL_law_863 : decode cL_law 863 = .ok (.iadd, 1) := by decide +kernel
theorem dL_law_864 : decode cL_law 864 = .ok (.iaload, 1) := by decide +kernel
theorem dL_law_865 : decode cL_law 865 = .ok (.aload_n 0, 1) := by decide +kernel
theorem dL_law_866 : decode cL_law 866 = .ok (.iload_n 3, 1) := by decide +kernel
theorem dL_law_867 : decode cL_law 867 = .ok (.iconst 2, 1) := by decide +kernel
theorem dL_law_868 : decode cL_law 868 = .ok (.iadd, 1) := by decide +kernel
theorem dL_law_869 : decode cL_law 869 = .ok (.iaload, 1) := by decide +kernel
theorem dL_law_870 : decode cL_law 870 = .ok (.invokevirtual 109, 3) := by decide +kernel
theorem dL_law_873 : decode cL_law 873 = .ok (.if_icmp .eq 592, 3) := by decide +kernel
theorem dL_law_876 : decode cL_law 876 = .ok (.iconst 0, 1) := by decide +kernel
theorem dL_law_877 : decode cL_law 877 = .ok (.ireturn, 1) := by decide +kernel
theorem dL_law_878 : decode cL_law 878 = .ok (.aload_n 1, 1) := by decide +kernel
theorem dL_law_879 : decode cL_law 879 = .ok (.aload_n 0, 1) := by decide +kernel
theorem dL_law_880 : decode cL_law 880 = .ok (.iload_n 3, 1) := by decide +kernel
theorem dL_law_881 : decode cL_law 881 = .ok (.iconst 1, 1) := by decide +kernel
theorem dL_law_882 : decode cL_law 882 = .ok (.iadd, 1) := by decide +kernel
theorem dL_law_883 : decode cL_law 883 = .ok (.iaload, 1) := by decide +kernel
theorem dL_law_884 : decode cL_law 884 = .ok (.aload_n 0, 1) := by decide +kernel
theorem dL_law_885 : decode cL_law 885 = .ok (.iload_n 3, 1) := by decide +kernel
theorem dL_law_886 : decode cL_law 886 = .ok (.iconst 2, 1) := by decide +kernel
theorem dL_law_887 : decode cL_law 887 = .ok (.iadd, 1) := by decide +kernel
theorem dL_law_888 : decode cL_law 888 = .ok (.iaload, 1) := by decide +kernel
theorem dL_law_889 : decode cL_law 889 = .ok (.aload_n 0, 1) := by decide +kernel
theorem dL_law_890 : decode cL_law 890 = .ok (.iload_n 3, 1) := by decide +kernel
theorem dL_law_891 : decode cL_law 891 = .ok (.iconst 3, 1) := by decide +kernel
theorem dL_law_892 : decode cL_law 892 = .ok (.iadd, 1) := by decide +kernel
theorem dL_law_893 : decode cL_law 893 = .ok (.iaload, 1) := by decide +kernel
theorem dL_law_894 : decode cL_law 894 = .ok (.invokevirtual 110, 3) := by decide +kernel
theorem dL_law_897 : decode cL_law 897 = .ok (.aload_n 2, 1) := by decide +kernel
theorem dL_law_898 : decode cL_law 898 = .ok (.aload_n 0, 1) := by decide +kernel
theorem dL_law_899 : decode cL_law 899 = .ok (.iload_n 3, 1) := by decide +kernel
theorem dL_law_900 : decode cL_law 900 = .ok (.iconst 1, 1) := by decide +kernel
theorem dL_law_901 : decode cL_law 901 = .ok (.iadd, 1) := by decide +kernel
theorem dL_law_902 : decode cL_law 902 = .ok (.iaload, 1) := by decide +kernel
theorem dL_law_903 : decode cL_law 903 = .ok (.aload_n 0, 1) := by decide +kernel
theorem dL_law_904 : decode cL_law 904 = .ok (.iload_n 3, 1) := by decide +kernel
theorem dL_law_905 : decode cL_law 905 = .ok (.iconst 2, 1) := by decide +kernel
theorem dL_law_906 : decode cL_law 906 = .ok (.iadd, 1) := by decide +kernel
theorem dL_law_907 : decode cL_law 907 = .ok (.iaload, 1) := by decide +kernel
theorem dL_law_908 : decode cL_law 908 = .ok (.aload_n 0, 1) := by decide +kernel
theorem dL_law_909 : decode cL_law 909 = .ok (.iload_n 3, 1) := by decide +kernel
theorem dL_law_910 : decode cL_law 910 = .ok (.iconst 3, 1) := by decide +kernel
theorem dL_law_911 : decode cL_law 911 = .ok (.iadd, 1) := by decide +kernel
theorem dL_law_912 : decode cL_law 912 = .ok (.iaload, 1) := by decide +kernel
theorem dL_law_913 : decode cL_law 913 = .ok (.invokevirtual 113, 3) := by decide +kernel
theorem dL_law_916 : decode cL_law 916 = .ok (.if_icmp .eq 549, 3) := by decide +kernel
theorem dL_law_919 : decode cL_law 919 = .ok (.iconst 0, 1) := by decide +kernel
theorem dL_law_920 : decode cL_law 920 = .ok (.ireturn, 1) := by decide +kernel
theorem dL_law_921 : decode cL_law 921 = .ok (.aload_n 1, 1) := by decide +kernel
theorem dL_law_922 : decode cL_law 922 = .ok (.aload_n 0, 1) := by decide +kernel
theorem dL_law_923 : decode cL_law 923 = .ok (.iload_n 3, 1) := by decide +kernel
theorem dL_law_924 : decode cL_law 924 = .ok (.iconst 1, 1) := by decide +kernel
theorem dL_law_925 : decode cL_law 925 = .ok (.iadd, 1) := by decide +kernel
theorem dL_law_926 : decode cL_law 926 = .ok (.iaload, 1) := by decide +kernel
theorem dL_law_927 : decode cL_law 927 = .ok (.aload_n 0, 1) := by decide +kernel
theorem dL_law_928 : decode cL_law 928 = .ok (.iload_n 3, 1) := by decide +kernel
theorem dL_law_929 : decode cL_law 929 = .ok (.iconst 2, 1) := by decide +kernel
theorem dL_law_930 : decode cL_law 930 = .ok (.iadd, 1) := by decide +kernel
theorem dL_law_931 : decode cL_law 931 = .ok (.iaload, 1) := by decide +kernel
theorem dL_law_932 : decode cL_law 932 = .ok (.invokevirtual 114, 3) := by decide +kernel
theorem dL_law_935 : decode cL_law 935 = .ok (.aload_n 2, 1) := by decide +kernel
theorem dL_law_936 : decode cL_law 936 = .ok (.aload_n 0, 1) := by decide +kernel
theorem dL_law_937 : decode cL_law 937 = .ok (.iload_n 3, 1) := by decide +kernel
theorem dL_law_938 : decode cL_law 938 = .ok (.iconst 1, 1) := by decide +kernel
theorem dL_law_939 : decode cL_law 939 = .ok (.iadd, 1) := by decide +kernel
theorem dL_law_940 : decode cL_law 940 = .ok (.iaload, 1) := by decide +kernel
theorem dL_law_941 : decode cL_law 941 = .ok (.aload_n 0, 1) := by decide +kernel
theorem dL_law_942 : decode cL_law 942 = .ok (.iload_n 3, 1) := by decide +kernel
theorem dL_law_943 : decode cL_law 943 = .ok (.iconst 2, 1) := by decide +kernel
theorem dL_law_944 : decode cL_law 944 = .ok (.iadd, 1) := by decide +kernel
theorem dL_law_945 : decode cL_law 945 = .ok (.iaload, 1) := by decide +kernel
theorem dL_law_946 : decode cL_law 946 = .ok (.invokevirtual 117, 3) := by decide +kernel
theorem dL_law_949 : decode cL_law 949 = .ok (.if_icmp .eq 516, 3) := by decide +kernel
theorem dL_law_952 : decode cL_law 952 = .ok (.iconst 0, 1) := by decide +kernel
theorem dL_law_953 : decode cL_law 953 = .ok (.ireturn, 1) := by decide +kernel
theorem dL_law_954 : decode cL_law 954 = .ok (.aload_n 1, 1) := by decide +kernel
theorem dL_law_955 : decode cL_law 955 = .ok (.aload_n 0, 1) := by decide +kernel
theorem dL_law_956 : decode cL_law 956 = .ok (.iload_n 3, 1) := by decide +kernel
theorem dL_law_957 : decode cL_law 957 = .ok (.iconst 1, 1) := by decide +kernel
theorem dL_law_958 : decode cL_law 958 = .ok (.iadd, 1) := by decide +kernel
theorem dL_law_959 : decode cL_law 959 = .ok (.iaload, 1) := by decide +kernel
theorem dL_law_960 : decode cL_law 960 = .ok (.aload_n 0, 1) := by decide +kernel
theorem dL_law_961 : decode cL_law 961 = .ok (.iload_n 3, 1) := by decide +kernel
theorem dL_law_962 : decode cL_law 962 = .ok (.iconst 2, 1) := by decide +kernel
theorem dL_law_963 : decode cL_law 963 = .ok (.iadd, 1) := by decide +kernel
theorem dL_law_964 : decode cL_law 964 = .ok (.iaload, 1) := by decide +kernel
theorem dL_law_965 : decode cL_law 965 = .ok (.invokevirtual 118, 3) := by decide +kernel
theorem dL_law_968 : decode cL_law 968 = .ok (.aload_n 2, 1) := by decide +kernel
theorem dL_law_969 : decode cL_law 969 = .ok (.aload_n 0, 1) := by decide +kernel
theorem dL_law_970 : decode cL_law 970 = .ok (.iload_n 3, 1) := by decide +kernel
theorem dL_law_971 : decode cL_law 971 = .ok (.iconst 1, 1) := by decide +kernel
theorem dL_law_972 : decode cL_law 972 = .ok (.iadd, 1) := by decide +kernel
theorem dL_law_973 : decode cL_law 973 = .ok (.iaload, 1) := by decide +kernel
theorem dL_law_974 : decode cL_law 974 = .ok (.aload_n 0, 1) := by decide +kernel
theorem dL_law_975 : decode cL_law 975 = .ok (.iload_n 3, 1) := by decide +kernel
theorem dL_law_976 : decode cL_law 976 = .ok (.iconst 2, 1) := by decide +kernel
theorem dL_law_977 : decode cL_law 977 = .ok (.iadd, 1) := by decide +kernel
theorem dL_law_978 : decode cL_law 978 = .ok (.iaload, 1) := by decide +kernel
theorem dL_law_979 : decode cL_law 979 = .ok (.invokevirtual 121, 3) := by decide +kernel
theorem dL_law_982 : decode cL_law 982 = .ok (.if_icmp .eq 483, 3) := by decide +kernel
theorem dL_law_985 : decode cL_law 985 = .ok (.iconst 0, 1) := by decide +kernel
theorem dL_law_986 : decode cL_law 986 = .ok (.ireturn, 1) := by decide +kernel
theorem dL_law_987 : decode cL_law 987 = .ok (.aload_n 1, 1) := by decide +kernel
theorem dL_law_988 : decode cL_law 988 = .ok (.aload_n 0, 1) := by decide +kernel
theorem dL_law_989 : decode cL_law 989 = .ok (.iload_n 3, 1) := by decide +kernel
theorem dL_law_990 : decode cL_law 990 = .ok (.iconst 1, 1) := by decide +kernel
theorem dL_law_991 : decode cL_law 991 = .ok (.iadd, 1) := by decide +kernel
theorem dL_law_992 : decode cL_law 992 = .ok (.iaload, 1) := by decide +kernel
theorem dL_law_993 : decode cL_law 993 = .ok (.aload_n 0, 1) := by decide +kernel
theorem dL_law_994 : decode cL_law 994 = .ok (.iload_n 3, 1) := by decide +kernel
theorem dL_law_995 : decode cL_law 995 = .ok (.iconst 2, 1) := by decide +kernel
theorem dL_law_996 : decode cL_law 996 = .ok (.iadd, 1) := by decide +kernel
theorem dL_law_997 : decode cL_law 997 = .ok (.iaload, 1) := by decide +kernel
theorem dL_law_998 : decode cL_law 998 = .ok (.aload_n 0, 1) := by decide +kernel
theorem dL_law_999 : decode cL_law 999 = .ok (.iload_n 3, 1) := by decide +kernel
theorem dL_law_1000 : decode cL_law 1000 = .ok (.iconst 3, 1) := by decide +kernel
theorem dL_law_1001 : decode cL_law 1001 = .ok (.iadd, 1) := by decide +kernel
theorem dL_law_1002 : decode cL_law 1002 = .ok (.iaload, 1) := by decide +kernel
theorem dL_law_1003 : decode cL_law 1003 = .ok (.invokevirtual 122, 3) := by decide +kernel
theorem dL_law_1006 : decode cL_law 1006 = .ok (.aload_n 2, 1) := by decide +kernel
theorem dL_law_1007 : decode cL_law 1007 = .ok (.aload_n 0, 1) := by decide +kernel
theorem dL_law_1008 : decode cL_law 1008 = .ok (.iload_n 3, 1) := by decide +kernel
theorem dL_law_1009 : decode cL_law 1009 = .ok (.iconst 1, 1) := by decide +kernel
theorem dL_law_1010 : decode cL_law 1010 = .ok (.iadd, 1) := by decide +kernel
theorem dL_law_1011 : decode cL_law 1011 = .ok (.iaload, 1) := by decide +kernel
theorem dL_law_1012 : decode cL_law 1012 = .ok (.aload_n 0, 1) := by decide +kernel
theorem dL_law_1013 : decode cL_law 1013 = .ok (.iload_n 3, 1) := by decide +kernel
theorem dL_law_1014 : decode cL_law 1014 = .ok (.iconst 2, 1) := by decide +kernel
theorem dL_law_1015 : decode cL_law 1015 = .ok (.iadd, 1) := by decide +kernel
theorem dL_law_1016 : decode cL_law 1016 = .ok (.iaload, 1) := by decide +kernel
theorem dL_law_1017 : decode cL_law 1017 = .ok (.aload_n 0, 1) := by decide +kernel
theorem dL_law_1018 : decode cL_law 1018 = .ok (.iload_n 3, 1) := by decide +kernel
theorem dL_law_1019 : decode cL_law 1019 = .ok (.iconst 3, 1) := by decide +kernel
theorem dL_law_1020 : decode cL_law 1020 = .ok (.iadd, 1) := by decide +kernel
theorem dL_law_1021 : decode cL_law 1021 = .ok (.iaload, 1) := by decide +kernel
theorem dL_law_1022 : decode cL_law 1022 = .ok (.invokevirtual 125, 3) := by decide +kernel
theorem dL_law_1025 : decode cL_law 1025 = .ok (.if_icmp .eq 440, 3) := by decide +kernel
theorem dL_law_1028 : decode cL_law 1028 = .ok (.iconst 0, 1) := by decide +kernel
theorem dL_law_1029 : decode cL_law 1029 = .ok (.ireturn, 1) := by decide +kernel
theorem dL_law_1030 : decode cL_law 1030 = .ok (.aload_n 1, 1) := by decide +kernel
theorem dL_law_1031 : decode cL_law 1031 = .ok (.aload_n 0, 1) := by decide +kernel
theorem dL_law_1032 : decode cL_law 1032 = .ok (.iload_n 3, 1) := by decide +kernel
theorem dL_law_1033 : decode cL_law 1033 = .ok (.iconst 1, 1) := by decide +kernel
theorem dL_law_1034 : decode cL_law 1034 = .ok (.iadd, 1) := by decide +kernel
theorem dL_law_1035 : decode cL_law 1035 = .ok (.iaload, 1) := by decide +kernel
theorem dL_law_1036 : decode cL_law 1036 = .ok (.aload_n 0, 1) := by decide +kernel
theorem dL_law_1037 : decode cL_law 1037 = .ok (.iload_n 3, 1) := by decide +kernel
theorem dL_law_1038 : decode cL_law 1038 = .ok (.iconst 2, 1) := by decide +kernel
theorem dL_law_1039 : decode cL_law 1039 = .ok (.iadd, 1) := by decide +kernel
theorem dL_law_1040 : decode cL_law 1040 = .ok (.iaload, 1) := by decide +kernel
theorem dL_law_1041 : decode cL_law 1041 = .ok (.invokevirtual 126, 3) := by decide +kernel
theorem dL_law_1044 : decode cL_law 1044 = .ok (.aload_n 2, 1) := by decide +kernel
theorem dL_law_1045 : decode cL_law 1045 = .ok (.aload_n 0, 1) := by decide +kernel
theorem dL_law_1046 : decode cL_law 1046 = .ok (.iload_n 3, 1) := by decide +kernel
theorem dL_law_1047 : decode cL_law 1047 = .ok (.iconst 1, 1) := by decide +kernel
theorem dL_law_1048 : decode cL_law 1048 = .ok (.iadd, 1) := by decide +kernel
theorem dL_law_1049 : decode cL_law 1049 = .ok (.iaload, 1) := by decide +kernel
theorem dL_law_1050 : decode cL_law 1050 = .ok (.aload_n 0, 1) := by decide +kernel
theorem dL_law_1051 : decode cL_law 1051 = .ok (.iload_n 3, 1) := by decide +kernel
theorem dL_law_1052 : decode cL_law 1052 = .ok (.iconst 2, 1) := by decide +kernel
theorem dL_law_1053 : decode cL_law 1053 = .ok (.iadd, 1) := by decide +kernel
theorem dL_law_1054 : decode cL_law 1054 = .ok (.iaload, 1) := by decide +kernel
theorem dL_law_1055 : decode cL_law 1055 = .ok (.invokevirtual 129, 3) := by decide +kernel
theorem dL_law_1058 : decode cL_law 1058 = .ok (.if_icmp .eq 407, 3) := by decide +kernel
theorem dL_law_1061 : decode cL_law 1061 = .ok (.iconst 0, 1) := by decide +kernel
theorem dL_law_1062 : decode cL_law 1062 = .ok (.ireturn, 1) := by decide +kernel
theorem dL_law_1063 : decode cL_law 1063 = .ok (.aload_n 1, 1) := by decide +kernel
theorem dL_law_1064 : decode cL_law 1064 = .ok (.aload_n 0, 1) := by decide +kernel
theorem dL_law_1065 : decode cL_law 1065 = .ok (.iload_n 3, 1) := by decide +kernel
theorem dL_law_1066 : decode cL_law 1066 = .ok (.iconst 1, 1) := by decide +kernel
theorem dL_law_1067 : decode cL_law 1067 = .ok (.iadd, 1) := by decide +kernel
theorem dL_law_1068 : decode cL_law 1068 = .ok (.iaload, 1) := by decide +kernel
theorem dL_law_1069 : decode cL_law 1069 = .ok (.aload_n 0, 1) := by decide +kernel
theorem dL_law_1070 : decode cL_law 1070 = .ok (.iload_n 3, 1) := by decide +kernel
theorem dL_law_1071 : decode cL_law 1071 = .ok (.iconst 2, 1) := by decide +kernel
theorem dL_law_1072 : decode cL_law 1072 = .ok (.iadd, 1) := by decide +kernel
theorem dL_law_1073 : decode cL_law 1073 = .ok (.iaload, 1) := by decide +kernel
theorem dL_law_1074 : decode cL_law 1074 = .ok (.invokevirtual 130, 3) := by decide +kernel
theorem dL_law_1077 : decode cL_law 1077 = .ok (.aload_n 2, 1) := by decide +kernel
theorem dL_law_1078 : decode cL_law 1078 = .ok (.aload_n 0, 1) := by decide +kernel
theorem dL_law_1079 : decode cL_law 1079 = .ok (.iload_n 3, 1) := by decide +kernel
theorem dL_law_1080 : decode cL_law 1080 = .ok (.iconst 1, 1) := by decide +kernel
theorem dL_law_1081 : decode cL_law 1081 = .ok (.iadd, 1) := by decide +kernel
theorem dL_law_1082 : decode cL_law 1082 = .ok (.iaload, 1) := by decide +kernel
theorem dL_law_1083 : decode cL_law 1083 = .ok (.aload_n 0, 1) := by decide +kernel
theorem dL_law_1084 : decode cL_law 1084 = .ok (.iload_n 3, 1) := by decide +kernel
theorem dL_law_1085 : decode cL_law 1085 = .ok (.iconst 2, 1) := by decide +kernel
theorem dL_law_1086 : decode cL_law 1086 = .ok (.iadd, 1) := by decide +kernel
theorem dL_law_1087 : decode cL_law 1087 = .ok (.iaload, 1) := by decide +kernel
theorem dL_law_1088 : decode cL_law 1088 = .ok (.invokevirtual 133, 3) := by decide +kernel
theorem dL_law_1091 : decode cL_law 1091 = .ok (.if_icmp .eq 374, 3) := by decide +kernel
theorem dL_law_1094 : decode cL_law 1094 = .ok (.iconst 0, 1) := by decide +kernel
theorem dL_law_1095 : decode cL_law 1095 = .ok (.ireturn, 1) := by decide +kernel
theorem dL_law_1096 : decode cL_law 1096 = .ok (.aload_n 1, 1) := by decide +kernel
theorem dL_law_1097 : decode cL_law 1097 = .ok (.aload_n 0, 1) := by decide +kernel
theorem dL_law_1098 : decode cL_law 1098 = .ok (.iload_n 3, 1) := by decide +kernel
theorem dL_law_1099 : decode cL_law 1099 = .ok (.iconst 1, 1) := by decide +kernel
theorem dL_law_1100 : decode cL_law 1100 = .ok (.iadd, 1) := by decide +kernel
theorem dL_law_1101 : decode cL_law 1101 = .ok (.iaload, 1) := by decide +kernel
theorem dL_law_1102 : decode cL_law 1102 = .ok (.aload_n 0, 1) := by decide +kernel
theorem dL_law_1103 : decode cL_law 1103 = .ok (.iload_n 3, 1) := by decide +kernel
theorem dL_law_1104 : decode cL_law 1104 = .ok (.iconst 2, 1) := by decide +kernel
theorem dL_law_1105 : decode cL_law 1105 = .ok (.iadd, 1) := by decide +kernel
theorem dL_law_1106 : decode cL_law 1106 = .ok (.iaload, 1) := by decide +kernel
theorem dL_law_1107 : decode cL_law 1107 = .ok (.invokevirtual 134, 3) := by decide +kernel
theorem dL_law_1110 : decode cL_law 1110 = .ok (.aload_n 2, 1) := by decide +kernel
theorem dL_law_1111 : decode cL_law 1111 = .ok (.aload_n 0, 1) := by decide +kernel
theorem dL_law_1112 : decode cL_law 1112 = .ok (.iload_n 3, 1) := by decide +kernel
theorem dL_law_1113 : decode cL_law 1113 = .ok (.iconst 1, 1) := by decide +kernel
theorem dL_law_1114 : decode cL_law 1114 = .ok (.iadd, 1) := by decide +kernel
theorem dL_law_1115 : decode cL_law 1115 = .ok (.iaload, 1) := by decide +kernel
theorem dL_law_1116 : decode cL_law 1116 = .ok (.aload_n 0, 1) := by decide +kernel
theorem dL_law_1117 : decode cL_law 1117 = .ok (.iload_n 3, 1) := by decide +kernel
theorem dL_law_1118 : decode cL_law 1118 = .ok (.iconst 2, 1) := by decide +kernel
theorem dL_law_1119 : decode cL_law 1119 = .ok (.iadd, 1) := by decide +kernel
theorem dL_law_1120 : decode cL_law 1120 = .ok (.iaload, 1) := by decide +kernel
theorem dL_law_1121 : decode cL_law 1121 = .ok (.invokevirtual 137, 3) := by decide +kernel
theorem dL_law_1124 : decode cL_law 1124 = .ok (.if_icmp .eq 341, 3) := by decide +kernel
theorem dL_law_1127 : decode cL_law 1127 = .ok (.iconst 0, 1) := by decide +kernel
theorem dL_law_1128 : decode cL_law 1128 = .ok (.ireturn, 1) := by decide +kernel
theorem dL_law_1129 : decode cL_law 1129 = .ok (.aload_n 1, 1) := by decide +kernel
theorem dL_law_1130 : decode cL_law 1130 = .ok (.aload_n 0, 1) := by decide +kernel
theorem dL_law_1131 : decode cL_law 1131 = .ok (.iload_n 3, 1) := by decide +kernel
theorem dL_law_1132 : decode cL_law 1132 = .ok (.iconst 1, 1) := by decide +kernel
theorem dL_law_1133 : decode cL_law 1133 = .ok (.iadd, 1) := by decide +kernel
theorem dL_law_1134 : decode cL_law 1134 = .ok (.iaload, 1) := by decide +kernel
theorem dL_law_1135 : decode cL_law 1135 = .ok (.aload_n 0, 1) := by decide +kernel
theorem dL_law_1136 : decode cL_law 1136 = .ok (.iload_n 3, 1) := by decide +kernel
theorem dL_law_1137 : decode cL_law 1137 = .ok (.iconst 2, 1) := by decide +kernel
theorem dL_law_1138 : decode cL_law 1138 = .ok (.iadd, 1) := by decide +kernel
theorem dL_law_1139 : decode cL_law 1139 = .ok (.iaload, 1) := by decide +kernel
theorem dL_law_1140 : decode cL_law 1140 = .ok (.aload_n 0, 1) := by decide +kernel
theorem dL_law_1141 : decode cL_law 1141 = .ok (.iload_n 3, 1) := by decide +kernel
theorem dL_law_1142 : decode cL_law 1142 = .ok (.iconst 3, 1) := by decide +kernel
theorem dL_law_1143 : decode cL_law 1143 = .ok (.iadd, 1) := by decide +kernel
theorem dL_law_1144 : decode cL_law 1144 = .ok (.iaload, 1) := by decide +kernel
theorem dL_law_1145 : decode cL_law 1145 = .ok (.invokevirtual 138, 3) := by decide +kernel
theorem dL_law_1148 : decode cL_law 1148 = .ok (.aload_n 2, 1) := by decide +kernel
theorem dL_law_1149 : decode cL_law 1149 = .ok (.aload_n 0, 1) := by decide +kernel
theorem dL_law_1150 : decode cL_law 1150 = .ok (.iload_n 3, 1) := by decide +kernel
theorem dL_law_1151 : decode cL_law 1151 = .ok (.iconst 1, 1) := by decide +kernel
theorem dL_law_1152 : decode cL_law 1152 = .ok (.iadd, 1) := by decide +kernel
theorem dL_law_1153 : decode cL_law 1153 = .ok (.iaload, 1) := by decide +kernel
theorem dL_law_1154 : decode cL_law 1154 = .ok (.aload_n 0, 1) := by decide +kernel
theorem dL_law_1155 : decode cL_law 1155 = .ok (.iload_n 3, 1) := by decide +kernel
theorem dL_law_1156 : decode cL_law 1156 = .ok (.iconst 2, 1) := by decide +kernel
theorem dL_law_1157 : decode cL_law 1157 = .ok (.iadd, 1) := by decide +kernel
theorem dL_law_1158 : decode cL_law 1158 = .ok (.iaload, 1) := by decide +kernel
theorem dL_law_1159 : decode cL_law 1159 = .ok (.aload_n 0, 1) := by decide +kernel
theorem dL_law_1160 : decode cL_law 1160 = .ok (.iload_n 3, 1) := by decide +kernel
theorem dL_law_1161 : decode cL_law 1161 = .ok (.iconst 3, 1) := by decide +kernel
theorem dL_law_1162 : decode cL_law 1162 = .ok (.iadd, 1) := by decide +kernel
theorem dL_law_1163 : decode cL_law 1163 = .ok (.iaload, 1) := by decide +kernel
theorem dL_law_1164 : decode cL_law 1164 = .ok (.invokevirtual 141, 3) := by decide +kernel
theorem dL_law_1167 : decode cL_law 1167 = .ok (.if_icmp .eq 298, 3) := by decide +kernel
theorem dL_law_1170 : decode cL_law 1170 = .ok (.iconst 0, 1) := by decide +kernel
theorem dL_law_1171 : decode cL_law 1171 = .ok (.ireturn, 1) := by decide +kernel
theorem dL_law_1172 : decode cL_law 1172 = .ok (.aload_n 1, 1) := by decide +kernel
theorem dL_law_1173 : decode cL_law 1173 = .ok (.aload_n 0, 1) := by decide +kernel
theorem dL_law_1174 : decode cL_law 1174 = .ok (.iload_n 3, 1) := by decide +kernel
theorem dL_law_1175 : decode cL_law 1175 = .ok (.iconst 1, 1) := by decide +kernel
theorem dL_law_1176 : decode cL_law 1176 = .ok (.iadd, 1) := by decide +kernel
theorem dL_law_1177 : decode cL_law 1177 = .ok (.iaload, 1) := by decide +kernel
theorem dL_law_1178 : decode cL_law 1178 = .ok (.aload_n 0, 1) := by decide +kernel
theorem dL_law_1179 : decode cL_law 1179 = .ok (.iload_n 3, 1) := by decide +kernel
theorem dL_law_1180 : decode cL_law 1180 = .ok (.iconst 2, 1) := by decide +kernel
theorem dL_law_1181 : decode cL_law 1181 = .ok (.iadd, 1) := by decide +kernel
theorem dL_law_1182 : decode cL_law 1182 = .ok (.iaload, 1) := by decide +kernel
theorem dL_law_1183 : decode cL_law 1183 = .ok (.invokevirtual 142, 3) := by decide +kernel
theorem dL_law_1186 : decode cL_law 1186 = .ok (.aload_n 2, 1) := by decide +kernel
theorem dL_law_1187 : decode cL_law 1187 = .ok (.aload_n 0, 1) := by decide +kernel
theorem dL_law_1188 : decode cL_law 1188 = .ok (.iload_n 3, 1) := by decide +kernel
theorem dL_law_1189 : decode cL_law 1189 = .ok (.iconst 1, 1) := by decide +kernel
theorem dL_law_1190 : decode cL_law 1190 = .ok (.iadd, 1) := by decide +kernel
theorem dL_law_1191 : decode cL_law 1191 = .ok (.iaload, 1) := by decide +kernel
theorem dL_law_1192 : decode cL_law 1192 = .ok (.aload_n 0, 1) := by decide +kernel
theorem dL_law_1193 : decode cL_law 1193 = .ok (.iload_n 3, 1) := by decide +kernel
theorem dL_law_1194 : decode cL_law 1194 = .ok (.iconst 2, 1) := by decide +kernel
theorem dL_law_1195 : decode cL_law 1195 = .ok (.iadd, 1) := by decide +kernel
theorem dL_law_1196 : decode cL_law 1196 = .ok (.iaload, 1) := by decide +kernel
theorem dL_law_1197 : decode cL_law 1197 = .ok (.invokevirtual 145, 3) := by decide +kernel
theorem dL_law_1200 : decode cL_law 1200 = .ok (.if_icmp .eq 265, 3) := by decide +kernel
theorem dL_law_1203 : decode cL_law 1203 = .ok (.iconst 0, 1) := by decide +kernel
theorem dL_law_1204 : decode cL_law 1204 = .ok (.ireturn, 1) := by decide +kernel
theorem dL_law_1205 : decode cL_law 1205 = .ok (.aload_n 1, 1) := by decide +kernel
theorem dL_law_1206 : decode cL_law 1206 = .ok (.aload_n 0, 1) := by decide +kernel
theorem dL_law_1207 : decode cL_law 1207 = .ok (.iload_n 3, 1) := by decide +kernel
theorem dL_law_1208 : decode cL_law 1208 = .ok (.iconst 1, 1) := by decide +kernel
theorem dL_law_1209 : decode cL_law 1209 = .ok (.iadd, 1) := by decide +kernel
theorem dL_law_1210 : decode cL_law 1210 = .ok (.iaload, 1) := by decide +kernel
theorem dL_law_1211 : decode cL_law 1211 = .ok (.aload_n 0, 1) := by decide +kernel
theorem dL_law_1212 : decode cL_law 1212 = .ok (.iload_n 3, 1) := by decide +kernel
theorem dL_law_1213 : decode cL_law 1213 = .ok (.iconst 2, 1) := by decide +kernel
theorem dL_law_1214 : decode cL_law 1214 = .ok (.iadd, 1) := by decide +kernel
theorem dL_law_1215 : decode cL_law 1215 = .ok (.iaload, 1) := by decide +kernel
theorem dL_law_1216 : decode cL_law 1216 = .ok (.invokevirtual 146, 3) := by decide +kernel
theorem dL_law_1219 : decode cL_law 1219 = .ok (.aload_n 2, 1) := by decide +kernel
theorem dL_law_1220 : decode cL_law 1220 = .ok (.aload_n 0, 1) := by decide +kernel
theorem dL_law_1221 : decode cL_law 1221 = .ok (.iload_n 3, 1) := by decide +kernel
theorem dL_law_1222 : decode cL_law 1222 = .ok (.iconst 1, 1) := by decide +kernel
theorem dL_law_1223 : decode cL_law 1223 = .ok (.iadd, 1) := by decide +kernel
theorem dL_law_1224 : decode cL_law 1224 = .ok (.iaload, 1) := by decide +kernel
theorem dL_law_1225 : decode cL_law 1225 = .ok (.aload_n 0, 1) := by decide +kernel
theorem dL_law_1226 : decode cL_law 1226 = .ok (.iload_n 3, 1) := by decide +kernel
theorem dL_law_1227 : decode cL_law 1227 = .ok (.iconst 2, 1) := by decide +kernel
theorem dL_law_1228 : decode cL_law 1228 = .ok (.iadd, 1) := by decide +kernel
theorem dL_law_1229 : decode cL_law 1229 = .ok (.iaload, 1) := by decide +kernel
theorem dL_law_1230 : decode cL_law 1230 = .ok (.invokevirtual 149, 3) := by decide +kernel
theorem dL_law_1233 : decode cL_law 1233 = .ok (.if_icmp .eq 232, 3) := by decide +kernel
theorem dL_law_1236 : decode cL_law 1236 = .ok (.iconst 0, 1) := by decide +kernel
theorem dL_law_1237 : decode cL_law 1237 = .ok (.ireturn, 1) := by decide +kernel
theorem dL_law_1238 : decode cL_law 1238 = .ok (.aload_n 1, 1) := by decide +kernel
theorem dL_law_1239 : decode cL_law 1239 = .ok (.aload_n 0, 1) := by decide +kernel
theorem dL_law_1240 : decode cL_law 1240 = .ok (.iload_n 3, 1) := by decide +kernel
theorem dL_law_1241 : decode cL_law 1241 = .ok (.iconst 1, 1) := by decide +kernel
theorem dL_law_1242 : decode cL_law 1242 = .ok (.iadd, 1) := by decide +kernel
theorem dL_law_1243 : decode cL_law 1243 = .ok (.iaload, 1) := by decide +kernel
theorem dL_law_1244 : decode cL_law 1244 = .ok (.aload_n 0, 1) := by decide +kernel
theorem dL_law_1245 : decode cL_law 1245 = .ok (.iload_n 3, 1) := by decide +kernel
theorem dL_law_1246 : decode cL_law 1246 = .ok (.iconst 2, 1) := by decide +kernel
theorem dL_law_1247 : decode cL_law 1247 = .ok (.iadd, 1) := by decide +kernel
theorem dL_law_1248 : decode cL_law 1248 = .ok (.iaload, 1) := by decide +kernel
theorem dL_law_1249 : decode cL_law 1249 = .ok (.aload_n 0, 1) := by decide +kernel
theorem dL_law_1250 : decode cL_law 1250 = .ok (.iload_n 3, 1) := by decide +kernel
theorem dL_law_1251 : decode cL_law 1251 = .ok (.iconst 3, 1) := by decide +kernel
theorem dL_law_1252 : decode cL_law 1252 = .ok (.iadd, 1) := by decide +kernel
theorem dL_law_1253 : decode cL_law 1253 = .ok (.iaload, 1) := by decide +kernel
theorem dL_law_1254 : decode cL_law 1254 = .ok (.invokevirtual 150, 3) := by decide +kernel
theorem dL_law_1257 : decode cL_law 1257 = .ok (.aload_n 2, 1) := by decide +kernel
theorem dL_law_1258 : decode cL_law 1258 = .ok (.aload_n 0, 1) := by decide +kernel
theorem dL_law_1259 : decode cL_law 1259 = .ok (.iload_n 3, 1) := by decide +kernel
theorem dL_law_1260 : decode cL_law 1260 = .ok (.iconst 1, 1) := by decide +kernel
theorem dL_law_1261 : decode cL_law 1261 = .ok (.iadd, 1) := by decide +kernel
theorem dL_law_1262 : decode cL_law 1262 = .ok (.iaload, 1) := by decide +kernel
theorem dL_law_1263 : decode cL_law 1263 = .ok (.aload_n 0, 1) := by decide +kernel
theorem dL_law_1264 : decode cL_law 1264 = .ok (.iload_n 3, 1) := by decide +kernel
theorem dL_law_1265 : decode cL_law 1265 = .ok (.iconst 2, 1) := by decide +kernel
theorem dL_law_1266 : decode cL_law 1266 = .ok (.iadd, 1) := by decide +kernel
theorem dL_law_1267 : decode cL_law 1267 = .ok (.iaload, 1) := by decide +kernel
theorem dL_law_1268 : decode cL_law 1268 = .ok (.aload_n 0, 1) := by decide +kernel
theorem dL_law_1269 : decode cL_law 1269 = .ok (.iload_n 3, 1) := by decide +kernel
theorem dL_law_1270 : decode cL_law 1270 = .ok (.iconst 3, 1) := by decide +kernel
theorem dL_law_1271 : decode cL_law 1271 = .ok (.iadd, 1) := by decide +kernel
theorem dL_law_1272 : decode cL_law 1272 = .ok (.iaload, 1) := by decide +kernel
theorem dL_law_1273 : decode cL_law 1273 = .ok (.invokevirtual 153, 3) := by decide +kernel
theorem dL_law_1276 : decode cL_law 1276 = .ok (.if_icmp .eq 189, 3) := by decide +kernel
theorem dL_law_1279 : decode cL_law 1279 = .ok (.iconst 0, 1) := by decide +kernel
theorem dL_law_1280 : decode cL_law 1280 = .ok (.ireturn, 1) := by decide +kernel
theorem dL_law_1281 : decode cL_law 1281 = .ok (.aload_n 1, 1) := by decide +kernel
theorem dL_law_1282 : decode cL_law 1282 = .ok (.aload_n 0, 1) := by decide +kernel
theorem dL_law_1283 : decode cL_law 1283 = .ok (.iload_n 3, 1) := by decide +kernel
theorem dL_law_1284 : decode cL_law 1284 = .ok (.iconst 1, 1) := by decide +kernel
theorem dL_law_1285 : decode cL_law 1285 = .ok (.iadd, 1) := by decide +kernel
theorem dL_law_1286 : decode cL_law 1286 = .ok (.iaload, 1) := by decide +kernel
theorem dL_law_1287 : decode cL_law 1287 = .ok (.invokevirtual 154, 3) := by decide +kernel
theorem dL_law_1290 : decode cL_law 1290 = .ok (.aload_n 2, 1) := by decide +kernel
theorem dL_law_1291 : decode cL_law 1291 = .ok (.aload_n 0, 1) := by decide +kernel
theorem dL_law_1292 : decode cL_law 1292 = .ok (.iload_n 3, 1) := by decide +kernel
theorem dL_law_1293 : decode cL_law 1293 = .ok (.iconst 1, 1) := by decide +kernel
theorem dL_law_1294 : decode cL_law 1294 = .ok (.iadd, 1) := by decide +kernel
theorem dL_law_1295 : decode cL_law 1295 = .ok (.iaload, 1) := by decide +kernel
theorem dL_law_1296 : decode cL_law 1296 = .ok (.invokevirtual 157, 3) := by decide +kernel
theorem dL_law_1299 : decode cL_law 1299 = .ok (.if_icmp .eq 166, 3) := by decide +kernel
theorem dL_law_1302 : decode cL_law 1302 = .ok (.iconst 0, 1) := by decide +kernel
theorem dL_law_1303 : decode cL_law 1303 = .ok (.ireturn, 1) := by decide +kernel
theorem dL_law_1304 : decode cL_law 1304 = .ok (.aload_n 1, 1) := by decide +kernel
theorem dL_law_1305 : decode cL_law 1305 = .ok (.aload_n 0, 1) := by decide +kernel
theorem dL_law_1306 : decode cL_law 1306 = .ok (.iload_n 3, 1) := by decide +kernel
theorem dL_law_1307 : decode cL_law 1307 = .ok (.iconst 1, 1) := by decide +kernel
theorem dL_law_1308 : decode cL_law 1308 = .ok (.iadd, 1) := by decide +kernel
theorem dL_law_1309 : decode cL_law 1309 = .ok (.iaload, 1) := by decide +kernel
theorem dL_law_1310 : decode cL_law 1310 = .ok (.invokevirtual 158, 3) := by decide +kernel
theorem dL_law_1313 : decode cL_law 1313 = .ok (.aload_n 2, 1) := by decide +kernel
theorem dL_law_1314 : decode cL_law 1314 = .ok (.aload_n 0, 1) := by decide +kernel
theorem dL_law_1315 : decode cL_law 1315 = .ok (.iload_n 3, 1) := by decide +kernel
theorem dL_law_1316 : decode cL_law 1316 = .ok (.iconst 1, 1) := by decide +kernel
theorem dL_law_1317 : decode cL_law 1317 = .ok (.iadd, 1) := by decide +kernel
theorem dL_law_1318 : decode cL_law 1318 = .ok (.iaload, 1) := by decide +kernel
theorem dL_law_1319 : decode cL_law 1319 = .ok (.invokevirtual 161, 3) := by decide +kernel
theorem dL_law_1322 : decode cL_law 1322 = .ok (.if_icmp .eq 143, 3) := by decide +kernel
theorem dL_law_1325 : decode cL_law 1325 = .ok (.iconst 0, 1) := by decide +kernel
theorem dL_law_1326 : decode cL_law 1326 = .ok (.ireturn, 1) := by decide +kernel
theorem dL_law_1327 : decode cL_law 1327 = .ok (.aload_n 1, 1) := by decide +kernel
theorem dL_law_1328 : decode cL_law 1328 = .ok (.aload_n 0, 1) := by decide +kernel
theorem dL_law_1329 : decode cL_law 1329 = .ok (.iload_n 3, 1) := by decide +kernel
theorem dL_law_1330 : decode cL_law 1330 = .ok (.iconst 1, 1) := by decide +kernel
theorem dL_law_1331 : decode cL_law 1331 = .ok (.iadd, 1) := by decide +kernel
theorem dL_law_1332 : decode cL_law 1332 = .ok (.iaload, 1) := by decide +kernel
theorem dL_law_1333 : decode cL_law 1333 = .ok (.invokevirtual 162, 3) := by decide +kernel
theorem dL_law_1336 : decode cL_law 1336 = .ok (.aload_n 2, 1) := by decide +kernel
theorem dL_law_1337 : decode cL_law 1337 = .ok (.aload_n 0, 1) := by decide +kernel
theorem dL_law_1338 : decode cL_law 1338 = .ok (.iload_n 3, 1) := by decide +kernel
theorem dL_law_1339 : decode cL_law 1339 = .ok (.iconst 1, 1) := by decide +kernel
theorem dL_law_1340 : decode cL_law 1340 = .ok (.iadd, 1) := by decide +kernel
theorem dL_law_1341 : decode cL_law 1341 = .ok (.iaload, 1) := by decide +kernel
theorem dL_law_1342 : decode cL_law 1342 = .ok (.invokevirtual 165, 3) := by decide +kernel
theorem dL_law_1345 : decode cL_law 1345 = .ok (.if_icmp .eq 120, 3) := by decide +kernel
theorem dL_law_1348 : decode cL_law 1348 = .ok (.iconst 0, 1) := by decide +kernel
theorem dL_law_1349 : decode cL_law 1349 = .ok (.ireturn, 1) := by decide +kernel
theorem dL_law_1350 : decode cL_law 1350 = .ok (.aload_n 1, 1) := by decide +kernel
theorem dL_law_1351 : decode cL_law 1351 = .ok (.aload_n 0, 1) := by decide +kernel
theorem dL_law_1352 : decode cL_law 1352 = .ok (.iload_n 3, 1) := by decide +kernel
theorem dL_law_1353 : decode cL_law 1353 = .ok (.iconst 1, 1) := by decide +kernel
theorem dL_law_1354 : decode cL_law 1354 = .ok (.iadd, 1) := by decide +kernel
theorem dL_law_1355 : decode cL_law 1355 = .ok (.iaload, 1) := by decide +kernel
theorem dL_law_1356 : decode cL_law 1356 = .ok (.invokevirtual 166, 3) := by decide +kernel
theorem dL_law_1359 : decode cL_law 1359 = .ok (.aload_n 2, 1) := by decide +kernel
theorem dL_law_1360 : decode cL_law 1360 = .ok (.aload_n 0, 1) := by decide +kernel
theorem dL_law_1361 : decode cL_law 1361 = .ok (.iload_n 3, 1) := by decide +kernel
theorem dL_law_1362 : decode cL_law 1362 = .ok (.iconst 1, 1) := by decide +kernel
theorem dL_law_1363 : decode cL_law 1363 = .ok (.iadd, 1) := by decide +kernel
theorem dL_law_1364 : decode cL_law 1364 = .ok (.iaload, 1) := by decide +kernel
theorem dL_law_1365 : decode cL_law 1365 = .ok (.invokevirtual 169, 3) := by decide +kernel
theorem dL_law_1368 : decode cL_law 1368 = .ok (.if_icmp .eq 97, 3) := by decide +kernel
theorem dL_law_1371 : decode cL_law 1371 = .ok (.iconst 0, 1) := by decide +kernel
theorem dL_law_1372 : decode cL_law 1372 = .ok (.ireturn, 1) := by decide +kernel
theorem dL_law_1373 : decode cL_law 1373 = .ok (.aload_n 1, 1) := by decide +kernel
theorem dL_law_1374 : decode cL_law 1374 = .ok (.aload_n 0, 1) := by decide +kernel
theorem dL_law_1375 : decode cL_law 1375 = .ok (.iload_n 3, 1) := by decide +kernel
theorem dL_law_1376 : decode cL_law 1376 = .ok (.iconst 1, 1) := by decide +kernel
theorem dL_law_1377 : decode cL_law 1377 = .ok (.iadd, 1) := by decide +kernel
theorem dL_law_1378 : decode cL_law 1378 = .ok (.iaload, 1) := by decide +kernel
theorem dL_law_1379 : decode cL_law 1379 = .ok (.invokevirtual 170, 3) := by decide +kernel
theorem dL_law_1382 : decode cL_law 1382 = .ok (.aload_n 2, 1) := by decide +kernel
theorem dL_law_1383 : decode cL_law 1383 = .ok (.aload_n 0, 1) := by decide +kernel
theorem dL_law_1384 : decode cL_law 1384 = .ok (.iload_n 3, 1) := by decide +kernel
theorem dL_law_1385 : decode cL_law 1385 = .ok (.iconst 1, 1) := by decide +kernel
theorem dL_law_1386 : decode cL_law 1386 = .ok (.iadd, 1) := by decide +kernel
theorem dL_law_1387 : decode cL_law 1387 = .ok (.iaload, 1) := by decide +kernel
theorem dL_law_1388 : decode cL_law 1388 = .ok (.invokevirtual 173, 3) := by decide +kernel
theorem dL_law_1391 : decode cL_law 1391 = .ok (.if_icmp .eq 74, 3) := by decide +kernel
theorem dL_law_1394 : decode cL_law 1394 = .ok (.iconst 0, 1) := by decide +kernel
theorem dL_law_1395 : decode cL_law 1395 = .ok (.ireturn, 1) := by decide +kernel
theorem dL_law_1396 : decode cL_law 1396 = .ok (.aload_n 1, 1) := by decide +kernel
theorem dL_law_1397 : decode cL_law 1397 = .ok (.aload_n 0, 1) := by decide +kernel
theorem dL_law_1398 : decode cL_law 1398 = .ok (.iload_n 3, 1) := by decide +kernel
theorem dL_law_1399 : decode cL_law 1399 = .ok (.iconst 1, 1) := by decide +kernel
theorem dL_law_1400 : decode cL_law 1400 = .ok (.iadd, 1) := by decide +kernel
theorem dL_law_1401 : decode cL_law 1401 = .ok (.iaload, 1) := by decide +kernel
theorem dL_law_1402 : decode cL_law 1402 = .ok (.invokevirtual 174, 3) := by decide +kernel
theorem dL_law_1405 : decode cL_law 1405 = .ok (.aload_n 2, 1) := by decide +kernel
theorem dL_law_1406 : decode cL_law 1406 = .ok (.aload_n 0, 1) := by decide +kernel
theorem dL_law_1407 : decode cL_law 1407 = .ok (.iload_n 3, 1) := by decide +kernel
theorem dL_law_1408 : decode cL_law 1408 = .ok (.iconst 1, 1) := by decide +kernel
theorem dL_law_1409 : decode cL_law 1409 = .ok (.iadd, 1) := by decide +kernel
theorem dL_law_1410 : decode cL_law 1410 = .ok (.iaload, 1) := by decide +kernel
theorem dL_law_1411 : decode cL_law 1411 = .ok (.invokevirtual 177, 3) := by decide +kernel
theorem dL_law_1414 : decode cL_law 1414 = .ok (.if_icmp .eq 51, 3) := by decide +kernel
theorem dL_law_1417 : decode cL_law 1417 = .ok (.iconst 0, 1) := by decide +kernel
theorem dL_law_1418 : decode cL_law 1418 = .ok (.ireturn, 1) := by decide +kernel
theorem dL_law_1419 : decode cL_law 1419 = .ok (.aload_n 1, 1) := by decide +kernel
theorem dL_law_1420 : decode cL_law 1420 = .ok (.aload_n 0, 1) := by decide +kernel
theorem dL_law_1421 : decode cL_law 1421 = .ok (.iload_n 3, 1) := by decide +kernel
theorem dL_law_1422 : decode cL_law 1422 = .ok (.iconst 1, 1) := by decide +kernel
theorem dL_law_1423 : decode cL_law 1423 = .ok (.iadd, 1) := by decide +kernel
theorem dL_law_1424 : decode cL_law 1424 = .ok (.iaload, 1) := by decide +kernel
theorem dL_law_1425 : decode cL_law 1425 = .ok (.invokevirtual 178, 3) := by decide +kernel
theorem dL_law_1428 : decode cL_law 1428 = .ok (.aload_n 2, 1) := by decide +kernel
theorem dL_law_1429 : decode cL_law 1429 = .ok (.aload_n 0, 1) := by decide +kernel
theorem dL_law_1430 : decode cL_law 1430 = .ok (.iload_n 3, 1) := by decide +kernel
theorem dL_law_1431 : decode cL_law 1431 = .ok (.iconst 1, 1) := by decide +kernel
theorem dL_law_1432 : decode cL_law 1432 = .ok (.iadd, 1) := by decide +kernel
theorem dL_law_1433 : decode cL_law 1433 = .ok (.iaload, 1) := by decide +kernel
theorem dL_law_1434 : decode cL_law 1434 = .ok (.invokevirtual 181, 3) := by decide +kernel
theorem dL_law_1437 : decode cL_law 1437 = .ok (.if_icmp .eq 28, 3) := by decide +kernel
theorem dL_law_1440 : decode cL_law 1440 = .ok (.iconst 0, 1) := by decide +kernel
theorem dL_law_1441 : decode cL_law 1441 = .ok (.ireturn, 1) := by decide +kernel
theorem dL_law_1442 : decode cL_law 1442 = .ok (.aload_n 1, 1) := by decide +kernel
theorem dL_law_1443 : decode cL_law 1443 = .ok (.aload_n 0, 1) := by decide +kernel
theorem dL_law_1444 : decode cL_law 1444 = .ok (.iload_n 3, 1) := by decide +kernel
theorem dL_law_1445 : decode cL_law 1445 = .ok (.iconst 1, 1) := by decide +kernel
theorem dL_law_1446 : decode cL_law 1446 = .ok (.iadd, 1) := by decide +kernel
theorem dL_law_1447 : decode cL_law 1447 = .ok (.iaload, 1) := by decide +kernel
theorem dL_law_1448 : decode cL_law 1448 = .ok (.invokevirtual 182, 3) := by decide +kernel
theorem dL_law_1451 : decode cL_law 1451 = .ok (.aload_n 2, 1) := by decide +kernel
theorem dL_law_1452 : decode cL_law 1452 = .ok (.aload_n 0, 1) := by decide +kernel
theorem dL_law_1453 : decode cL_law 1453 = .ok (.iload_n 3, 1) := by decide +kernel
theorem dL_law_1454 : decode cL_law 1454 = .ok (.iconst 1, 1) := by decide +kernel
theorem dL_law_1455 : decode cL_law 1455 = .ok (.iadd, 1) := by decide +kernel
theorem dL_law_1456 : decode cL_law 1456 = .ok (.iaload, 1) := by decide +kernel
theorem dL_law_1457 : decode cL_law 1457 = .ok (.invokevirtual 185, 3) := by decide +kernel
theorem dL_law_1460 : decode cL_law 1460 = .ok (.if_icmp .eq 5, 3) := by decide +kernel
theorem dL_law_1463 : decode cL_law 1463 = .ok (.iconst 0, 1) := by decide +kernel
theorem dL_law_1464 : decode cL_law 1464 = .ok (.ireturn, 1) := by decide +kernel
theorem dL_law_1465 : decode cL_law 1465 = .ok (.iinc 3 6, 3) := by decide +kernel
theorem dL_law_1468 : decode cL_law 1468 = .ok (.goto (-1450), 3) := by decide +kernel
theorem dL_law_1471 : decode cL_law 1471 = .ok (.iconst 1, 1) := by decide +kernel
theorem dL_law_1472 : decode cL_law 1472 = .ok (.ireturn, 1) := by decide +kernel
