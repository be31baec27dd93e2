theorem dX12_slack_72 : decode cX12_slack 72 = .ok (.goto (-54), 3) := dec_s2 oX12_slack (of167 _) 255 202 rfl (sg16n (k := 54) rfl) rfl
theorem dX12_slack_75 : decode cX12_slack 75 = .ok (.iload_n 2, 1) := dec_0 oX12_slack (of28 _) rfl
theorem dX12_slack_76 : decode cX12_slack 76 = .ok (.ireturn, 1) := dec_0 oX12_slack (of172 _) rfl
theorem dX12_turns_10 : decode cX12_turns 10 = .ok (.aload_n 0, 1) := dec_0 oX12_turns (of42 _) rfl
theorem dX12_turns_11 : decode cX12_turns 11 = .ok (.iload_n 1, 1) := dec_0 oX12_turns (of27 _) rfl
theorem dX12_turns_12 : decode cX12_turns 12 = .ok (.invokevirtual 357, 3) := dec_2 oX12_turns (of182 _) 1 101 rfl rfl
theorem dX12_turns_15 : decode cX12_turns 15 = .ok (.iconst (-1), 1) := dec_0 oX12_turns (of2 _) rfl
theorem dX12_turns_16 : decode cX12_turns 16 = .ok (.istore_n 2, 1) := dec_0 oX12_turns (of61 _) rfl
theorem dX12_turns_17 : decode cX12_turns 17 = .ok (.iconst 0, 1) := dec_0 oX12_turns (of3 _) rfl
theorem dX12_turns_18 : decode cX12_turns 18 = .ok (.istore_n 3, 1) := dec_0 oX12_turns (of62 _) rfl
theorem dX12_turns_19 : decode cX12_turns 19 = .ok (.iconst 0, 1) := dec_0 oX12_turns (of3 _) rfl
theorem dX12_turns_20 : decode cX12_turns 20 = .ok (.istore 4, 2) := dec_1 oX12_turns (of54 _) 4 rfl rfl
theorem dX12_turns_22 : decode cX12_turns 22 = .ok (.iconst 0, 1) := dec_0 oX12_turns (of3 _) rfl
theorem dX12_turns_23 : decode cX12_turns 23 = .ok (.istore 5, 2) := dec_1 oX12_turns (of54 _) 5 rfl rfl
theorem dX12_turns_25 : decode cX12_turns 25 = .ok (.iload 5, 2) := dec_1 oX12_turns (of21 _) 5 rfl rfl
theorem dX12_turns_27 : decode cX12_turns 27 = .ok (.sipush 160, 3) := dec_s2 oX12_turns (of17 _) 0 160 rfl (sg16p rfl) rfl
theorem dX12_turns_30 : decode cX12_turns 30 = .ok (.if_icmp .ge 71, 3) := dec_s2 oX12_turns (of162 _) 0 71 rfl (sg16p rfl) rfl
theorem dX12_turns_33 : decode cX12_turns 33 = .ok (.aload_n 0, 1) := dec_0 oX12_turns (of42 _) rfl
theorem dX12_turns_34 : decode cX12_turns 34 = .ok (.getfield 91, 3) := dec_2 oX12_turns (of180 _) 0 91 rfl rfl
theorem dX12_turns_37 : decode cX12_turns 37 = .ok (.iload 5, 2) := dec_1 oX12_turns (of21 _) 5 rfl rfl
theorem dX12_turns_39 : decode cX12_turns 39 = .ok (.iaload, 1) := dec_0 oX12_turns (of46 _) rfl
theorem dX12_turns_40 : decode cX12_turns 40 = .ok (.ifCond .ge 6, 3) := dec_s2 oX12_turns (of156 _) 0 6 rfl (sg16p rfl) rfl
theorem dX12_turns_43 : decode cX12_turns 43 = .ok (.goto 52, 3) := dec_s2 oX12_turns (of167 _) 0 52 rfl (sg16p rfl) rfl
theorem dX12_turns_46 : decode cX12_turns 46 = .ok (.iload_n 2, 1) := dec_0 oX12_turns (of28 _) rfl
theorem dX12_turns_47 : decode cX12_turns 47 = .ok (.ifCond .lt 16, 3) := dec_s2 oX12_turns (of155 _) 0 16 rfl (sg16p rfl) rfl
theorem dX12_turns_50 : decode cX12_turns 50 = .ok (.aload_n 0, 1) := dec_0 oX12_turns (of42 _) rfl
theorem dX12_turns_51 : decode cX12_turns 51 = .ok (.getfield 91, 3) := dec_2 oX12_turns (of180 _) 0 91 rfl rfl
theorem dX12_turns_54 : decode cX12_turns 54 = .ok (.iload 5, 2) := dec_1 oX12_turns (of21 _) 5 rfl rfl
theorem dX12_turns_56 : decode cX12_turns 56 = .ok (.iaload, 1) := dec_0 oX12_turns (of46 _) rfl
theorem dX12_turns_57 : decode cX12_turns 57 = .ok (.iload_n 2, 1) := dec_0 oX12_turns (of28 _) rfl
theorem dX12_turns_58 : decode cX12_turns 58 = .ok (.if_icmp .ge 5, 3) := dec_s2 oX12_turns (of162 _) 0 5 rfl (sg16p rfl) rfl
theorem dX12_turns_61 : decode cX12_turns 61 = .ok (.iconst 1, 1) := dec_0 oX12_turns (of4 _) rfl
theorem dX12_turns_62 : decode cX12_turns 62 = .ok (.istore_n 3, 1) := dec_0 oX12_turns (of62 _) rfl
theorem dX12_turns_63 : decode cX12_turns 63 = .ok (.iload_n 2, 1) := dec_0 oX12_turns (of28 _) rfl
theorem dX12_turns_64 : decode cX12_turns 64 = .ok (.ifCond .lt 23, 3) := dec_s2 oX12_turns (of155 _) 0 23 rfl (sg16p rfl) rfl
theorem dX12_turns_67 : decode cX12_turns 67 = .ok (.aload_n 0, 1) := dec_0 oX12_turns (of42 _) rfl
theorem dX12_turns_68 : decode cX12_turns 68 = .ok (.getfield 91, 3) := dec_2 oX12_turns (of180 _) 0 91 rfl rfl
theorem dX12_turns_71 : decode cX12_turns 71 = .ok (.iload 5, 2) := dec_1 oX12_turns (of21 _) 5 rfl rfl
theorem dX12_turns_73 : decode cX12_turns 73 = .ok (.iaload, 1) := dec_0 oX12_turns (of46 _) rfl
theorem dX12_turns_74 : decode cX12_turns 74 = .ok (.iload_n 2, 1) := dec_0 oX12_turns (of28 _) rfl
theorem dX12_turns_75 : decode cX12_turns 75 = .ok (.if_icmp .le 12, 3) := dec_s2 oX12_turns (of164 _) 0 12 rfl (sg16p rfl) rfl
theorem dX12_turns_78 : decode cX12_turns 78 = .ok (.iload_n 3, 1) := dec_0 oX12_turns (of29 _) rfl
theorem dX12_turns_79 : decode cX12_turns 79 = .ok (.ifCond .eq 6, 3) := dec_s2 oX12_turns (of153 _) 0 6 rfl (sg16p rfl) rfl
theorem dX12_turns_82 : decode cX12_turns 82 = .ok (.iinc 4 1, 3) := dec_ii oX12_turns (of132 _) 4 1 rfl (sg8p rfl) rfl
theorem dX12_turns_85 : decode cX12_turns 85 = .ok (.iconst 0, 1) := dec_0 oX12_turns (of3 _) rfl
theorem dX12_turns_86 : decode cX12_turns 86 = .ok (.istore_n 3, 1) := dec_0 oX12_turns (of62 _) rfl
theorem dX12_turns_87 : decode cX12_turns 87 = .ok (.aload_n 0, 1) := dec_0 oX12_turns (of42 _) rfl
theorem dX12_turns_88 : decode cX12_turns 88 = .ok (.getfield 91, 3) := dec_2 oX12_turns (of180 _) 0 91 rfl rfl
theorem dX12_turns_91 : decode cX12_turns 91 = .ok (.iload 5, 2) := dec_1 oX12_turns (of21 _) 5 rfl rfl
theorem dX12_turns_93 : decode cX12_turns 93 = .ok (.iaload, 1) := dec_0 oX12_turns (of46 _) rfl
theorem dX12_turns_94 : decode cX12_turns 94 = .ok (.istore_n 2, 1) := dec_0 oX12_turns (of61 _) rfl
theorem dX12_turns_95 : decode cX12_turns 95 = .ok (.iinc 5 1, 3) := dec_ii oX12_turns (of132 _) 5 1 rfl (sg8p rfl) rfl
theorem dX12_turns_98 : decode cX12_turns 98 = .ok (.goto (-73), 3) := dec_s2 oX12_turns (of167 _) 255 183 rfl (sg16n (k := 73) rfl) rfl
theorem dX12_turns_101 : decode cX12_turns 101 = .ok (.iload 4, 2) := dec_1 oX12_turns (of21 _) 4 rfl rfl
theorem dX12_turns_103 : decode cX12_turns 103 = .ok (.ireturn, 1) := dec_0 oX12_turns (of172 _) rfl
theorem dX12_fired_27 : decode cX12_fired 27 = .ok (.aload_n 0, 1) := dec_0 oX12_fired (of42 _) rfl
theorem dX12_fired_28 : decode cX12_fired 28 = .ok (.getfield 70, 3) := dec_2 oX12_fired (of180 _) 0 70 rfl rfl
theorem dX12_fired_31 : decode cX12_fired 31 = .ok (.iconst 0, 1) := dec_0 oX12_fired (of3 _) rfl
theorem dX12_fired_32 : decode cX12_fired 32 = .ok (.iaload, 1) := dec_0 oX12_fired (of46 _) rfl
theorem dX12_fired_33 : decode cX12_fired 33 = .ok (.aload_n 0, 1) := dec_0 oX12_fired (of42 _) rfl
theorem dX12_fired_34 : decode cX12_fired 34 = .ok (.iload_n 3, 1) := dec_0 oX12_fired (of29 _) rfl
theorem dX12_fired_35 : decode cX12_fired 35 = .ok (.invokevirtual 254, 3) := dec_2 oX12_fired (of182 _) 0 254 rfl rfl
theorem dX12_fired_38 : decode cX12_fired 38 = .ok (.isub, 1) := dec_0 oX12_fired (of100 _) rfl
theorem dX12_fired_39 : decode cX12_fired 39 = .ok (.istore 4, 2) := dec_1 oX12_fired (of54 _) 4 rfl rfl
theorem dX12_fired_41 : decode cX12_fired 41 = .ok (.aload_n 0, 1) := dec_0 oX12_fired (of42 _) rfl
theorem dX12_fired_42 : decode cX12_fired 42 = .ok (.iload_n 3, 1) := dec_0 oX12_fired (of29 _) rfl
theorem dX12_fired_43 : decode cX12_fired 43 = .ok (.iload 4, 2) := dec_1 oX12_fired (of21 _) 4 rfl rfl
theorem dX12_fired_45 : decode cX12_fired 45 = .ok (.invokevirtual 342, 3) := dec_2 oX12_fired (of182 _) 1 86 rfl rfl
theorem dX12_fired_48 : decode cX12_fired 48 = .ok (.ifCond .eq 20, 3) := dec_s2 oX12_fired (of153 _) 0 20 rfl (sg16p rfl) rfl
theorem dX12_fired_51 : decode cX12_fired 51 = .ok (.aload_n 0, 1) := dec_0 oX12_fired (of42 _) rfl
theorem dX12_fired_52 : decode cX12_fired 52 = .ok (.iload_n 3, 1) := dec_0 oX12_fired (of29 _) rfl
theorem dX12_fired_53 : decode cX12_fired 53 = .ok (.iload 4, 2) := dec_1 oX12_fired (of21 _) 4 rfl rfl
theorem dX12_fired_55 : decode cX12_fired 55 = .ok (.invokevirtual 345, 3) := dec_2 oX12_fired (of182 _) 1 89 rfl rfl
theorem dX12_fired_58 : decode cX12_fired 58 = .ok (.iload_n 1, 1) := dec_0 oX12_fired (of27 _) rfl
theorem dX12_fired_59 : decode cX12_fired 59 = .ok (.if_icmp .gt 9, 3) := dec_s2 oX12_fired (of163 _) 0 9 rfl (sg16p rfl) rfl
theorem dX12_fired_62 : decode cX12_fired 62 = .ok (.iload_n 2, 1) := dec_0 oX12_fired (of28 _) rfl
theorem dX12_fired_63 : decode cX12_fired 63 = .ok (.iconst 1, 1) := dec_0 oX12_fired (of4 _) rfl
theorem dX12_fired_64 : decode cX12_fired 64 = .ok (.iload_n 3, 1) := dec_0 oX12_fired (of29 _) rfl
theorem dX12_fired_65 : decode cX12_fired 65 = .ok (.ishl, 1) := dec_0 oX12_fired (of120 _) rfl
theorem dX12_fired_66 : decode cX12_fired 66 = .ok (.ior, 1) := dec_0 oX12_fired (of128 _) rfl
theorem dX12_fired_67 : decode cX12_fired 67 = .ok (.istore_n 2, 1) := dec_0 oX12_fired (of61 _) rfl
theorem dX12_fired_68 : decode cX12_fired 68 = .ok (.iinc 3 1, 3) := dec_ii oX12_fired (of132 _) 3 1 rfl (sg8p rfl) rfl
theorem dX12_fired_71 : decode cX12_fired 71 = .ok (.goto (-57), 3) := dec_s2 oX12_fired (of167 _) 255 199 rfl (sg16n (k := 57) rfl) rfl
theorem dX12_whose_21 : decode cX12_whose 21 = .ok (.aload_n 0, 1) := dec_0 oX12_whose (of42 _) rfl
theorem dX12_whose_22 : decode cX12_whose 22 = .ok (.invokevirtual 323, 3) := dec_2 oX12_whose (of182 _) 1 67 rfl rfl
theorem dX12_whose_25 : decode cX12_whose 25 = .ok (.bipush (-2), 2) := dec_s1 oX12_whose (of16 _) 254 rfl (sg8n (k := 2) rfl) rfl
theorem dX12_whose_27 : decode cX12_whose 27 = .ok (.istore_n 3, 1) := dec_0 oX12_whose (of62 _) rfl
theorem dX12_whose_28 : decode cX12_whose 28 = .ok (.iconst 0, 1) := dec_0 oX12_whose (of3 _) rfl
theorem dX12_whose_29 : decode cX12_whose 29 = .ok (.istore 4, 2) := dec_1 oX12_whose (of54 _) 4 rfl rfl
theorem dX12_whose_31 : decode cX12_whose 31 = .ok (.iconst 0, 1) := dec_0 oX12_whose (of3 _) rfl
theorem dX12_whose_32 : decode cX12_whose 32 = .ok (.istore 5, 2) := dec_1 oX12_whose (of54 _) 5 rfl rfl
theorem dX12_whose_34 : decode cX12_whose 34 = .ok (.iload 5, 2) := dec_1 oX12_whose (of21 _) 5 rfl rfl
theorem dX12_whose_36 : decode cX12_whose 36 = .ok (.aload_n 0, 1) := dec_0 oX12_whose (of42 _) rfl
theorem dX12_whose_37 : decode cX12_whose 37 = .ok (.getfield 49, 3) := dec_2 oX12_whose (of180 _) 0 49 rfl rfl
theorem dX12_whose_40 : decode cX12_whose 40 = .ok (.aload_n 0, 1) := dec_0 oX12_whose (of42 _) rfl
theorem dX12_whose_41 : decode cX12_whose 41 = .ok (.getfield 197, 3) := dec_2 oX12_whose (of180 _) 0 197 rfl rfl
theorem dX12_whose_44 : decode cX12_whose 44 = .ok (.iaload, 1) := dec_0 oX12_whose (of46 _) rfl
theorem dX12_whose_45 : decode cX12_whose 45 = .ok (.if_icmp .ge 52, 3) := dec_s2 oX12_whose (of162 _) 0 52 rfl (sg16p rfl) rfl
theorem dX12_whose_48 : decode cX12_whose 48 = .ok (.aload_n 0, 1) := dec_0 oX12_whose (of42 _) rfl
theorem dX12_whose_49 : decode cX12_whose 49 = .ok (.iload 5, 2) := dec_1 oX12_whose (of21 _) 5 rfl rfl
theorem dX12_whose_51 : decode cX12_whose 51 = .ok (.invokevirtual 254, 3) := dec_2 oX12_whose (of182 _) 0 254 rfl rfl
theorem dX12_whose_54 : decode cX12_whose 54 = .ok (.iload_n 2, 1) := dec_0 oX12_whose (of28 _) rfl
theorem dX12_whose_55 : decode cX12_whose 55 = .ok (.if_icmp .eq 6, 3) := dec_s2 oX12_whose (of159 _) 0 6 rfl (sg16p rfl) rfl
theorem dX12_whose_58 : decode cX12_whose 58 = .ok (.goto 33, 3) := dec_s2 oX12_whose (of167 _) 0 33 rfl (sg16p rfl) rfl
theorem dX12_whose_61 : decode cX12_whose 61 = .ok (.aload_n 0, 1) := dec_0 oX12_whose (of42 _) rfl
theorem dX12_whose_62 : decode cX12_whose 62 = .ok (.iload 5, 2) := dec_1 oX12_whose (of21 _) 5 rfl rfl
theorem dX12_whose_64 : decode cX12_whose 64 = .ok (.iload_n 1, 1) := dec_0 oX12_whose (of27 _) rfl
theorem dX12_whose_65 : decode cX12_whose 65 = .ok (.invokevirtual 345, 3) := dec_2 oX12_whose (of182 _) 1 89 rfl rfl
theorem dX12_whose_68 : decode cX12_whose 68 = .ok (.istore 6, 2) := dec_1 oX12_whose (of54 _) 6 rfl rfl
theorem dX12_whose_70 : decode cX12_whose 70 = .ok (.iload_n 3, 1) := dec_0 oX12_whose (of29 _) rfl
theorem dX12_whose_71 : decode cX12_whose 71 = .ok (.ifCond .lt 13, 3) := dec_s2 oX12_whose (of155 _) 0 13 rfl (sg16p rfl) rfl
theorem dX12_whose_74 : decode cX12_whose 74 = .ok (.iload 6, 2) := dec_1 oX12_whose (of21 _) 6 rfl rfl
theorem dX12_whose_76 : decode cX12_whose 76 = .ok (.iload 4, 2) := dec_1 oX12_whose (of21 _) 4 rfl rfl
theorem dX12_whose_78 : decode cX12_whose 78 = .ok (.if_icmp .lt 6, 3) := dec_s2 oX12_whose (of161 _) 0 6 rfl (sg16p rfl) rfl
theorem dX12_whose_81 : decode cX12_whose 81 = .ok (.goto 10, 3) := dec_s2 oX12_whose (of167 _) 0 10 rfl (sg16p rfl) rfl
theorem dX12_whose_84 : decode cX12_whose 84 = .ok (.iload 5, 2) := dec_1 oX12_whose (of21 _) 5 rfl rfl
theorem dX12_whose_86 : decode cX12_whose 86 = .ok (.istore_n 3, 1) := dec_0 oX12_whose (of62 _) rfl
theorem dX12_whose_87 : decode cX12_whose 87 = .ok (.iload 6, 2) := dec_1 oX12_whose (of21 _) 6 rfl rfl
theorem dX12_whose_89 : decode cX12_whose 89 = .ok (.istore 4, 2) := dec_1 oX12_whose (of54 _) 4 rfl rfl
theorem dX12_whose_91 : decode cX12_whose 91 = .ok (.iinc 5 1, 3) := dec_ii oX12_whose (of132 _) 5 1 rfl (sg8p rfl) rfl
theorem dX12_whose_94 : decode cX12_whose 94 = .ok (.goto (-60), 3) := dec_s2 oX12_whose (of167 _) 255 196 rfl (sg16n (k := 60) rfl) rfl
theorem dX12_whose_97 : decode cX12_whose 97 = .ok (.iload_n 3, 1) := dec_0 oX12_whose (of29 _) rfl
theorem dX12_whose_98 : decode cX12_whose 98 = .ok (.ireturn, 1) := dec_0 oX12_whose (of172 _) rfl
theorem dX12_nearOf_0 : decode cX12_nearOf 0 = .ok (.bipush (-2), 2) := dec_s1 oX12_nearOf (of16 _) 254 rfl (sg8n (k := 2) rfl) rfl
theorem dX12_nearOf_2 : decode cX12_nearOf 2 = .ok (.istore_n 3, 1) := dec_0 oX12_nearOf (of62 _) rfl
theorem dX12_nearOf_3 : decode cX12_nearOf 3 = .ok (.aload_n 0, 1) := dec_0 oX12_nearOf (of42 _) rfl
theorem dX12_nearOf_4 : decode cX12_nearOf 4 = .ok (.bipush (-2), 2) := dec_s1 oX12_nearOf (of16 _) 254 rfl (sg8n (k := 2) rfl) rfl
theorem dX12_nearOf_6 : decode cX12_nearOf 6 = .ok (.putfield 381, 3) := dec_2 oX12_nearOf (of181 _) 1 125 rfl rfl
theorem dX12_nearOf_9 : decode cX12_nearOf 9 = .ok (.iconst 0, 1) := dec_0 oX12_nearOf (of3 _) rfl
theorem dX12_nearOf_10 : decode cX12_nearOf 10 = .ok (.istore 4, 2) := dec_1 oX12_nearOf (of54 _) 4 rfl rfl
theorem dX12_nearOf_12 : decode cX12_nearOf 12 = .ok (.iload 4, 2) := dec_1 oX12_nearOf (of21 _) 4 rfl rfl
theorem dX12_nearOf_14 : decode cX12_nearOf 14 = .ok (.aload_n 0, 1) := dec_0 oX12_nearOf (of42 _) rfl
theorem dX12_nearOf_15 : decode cX12_nearOf 15 = .ok (.getfield 70, 3) := dec_2 oX12_nearOf (of180 _) 0 70 rfl rfl
theorem dX12_nearOf_18 : decode cX12_nearOf 18 = .ok (.iconst 0, 1) := dec_0 oX12_nearOf (of3 _) rfl
theorem dX12_nearOf_19 : decode cX12_nearOf 19 = .ok (.iaload, 1) := dec_0 oX12_nearOf (of46 _) rfl
theorem dX12_nearOf_20 : decode cX12_nearOf 20 = .ok (.if_icmp .ge 80, 3) := dec_s2 oX12_nearOf (of162 _) 0 80 rfl (sg16p rfl) rfl
theorem dX12_nearOf_23 : decode cX12_nearOf 23 = .ok (.iload 4, 2) := dec_1 oX12_nearOf (of21 _) 4 rfl rfl
theorem dX12_nearOf_25 : decode cX12_nearOf 25 = .ok (.iload_n 1, 1) := dec_0 oX12_nearOf (of27 _) rfl
theorem dX12_nearOf_26 : decode cX12_nearOf 26 = .ok (.isub, 1) := dec_0 oX12_nearOf (of100 _) rfl
theorem dX12_nearOf_27 : decode cX12_nearOf 27 = .ok (.iconst 1, 1) := dec_0 oX12_nearOf (of4 _) rfl
theorem dX12_nearOf_28 : decode cX12_nearOf 28 = .ok (.iload_n 2, 1) := dec_0 oX12_nearOf (of28 _) rfl
theorem dX12_nearOf_29 : decode cX12_nearOf 29 = .ok (.isub, 1) := dec_0 oX12_nearOf (of100 _) rfl
theorem dX12_nearOf_30 : decode cX12_nearOf 30 = .ok (.iload_n 2, 1) := dec_0 oX12_nearOf (of28 _) rfl
theorem dX12_nearOf_31 : decode cX12_nearOf 31 = .ok (.iconst 1, 1) := dec_0 oX12_nearOf (of4 _) rfl
theorem dX12_nearOf_32 : decode cX12_nearOf 32 = .ok (.isub, 1) := dec_0 oX12_nearOf (of100 _) rfl
theorem dX12_nearOf_33 : decode cX12_nearOf 33 = .ok (.invokestatic 244, 3) := dec_2 oX12_nearOf (of184 _) 0 244 rfl rfl
theorem dX12_nearOf_36 : decode cX12_nearOf 36 = .ok (.ifCond .ne 58, 3) := dec_s2 oX12_nearOf (of154 _) 0 58 rfl (sg16p rfl) rfl
theorem dX12_nearOf_39 : decode cX12_nearOf 39 = .ok (.aload_n 0, 1) := dec_0 oX12_nearOf (of42 _) rfl
theorem dX12_nearOf_40 : decode cX12_nearOf 40 = .ok (.iload 4, 2) := dec_1 oX12_nearOf (of21 _) 4 rfl rfl
theorem dX12_nearOf_42 : decode cX12_nearOf 42 = .ok (.iload_n 2, 1) := dec_0 oX12_nearOf (of28 _) rfl
theorem dX12_nearOf_43 : decode cX12_nearOf 43 = .ok (.invokevirtual 257, 3) := dec_2 oX12_nearOf (of182 _) 1 1 rfl rfl
theorem dX12_nearOf_46 : decode cX12_nearOf 46 = .ok (.ifCond .ne 6, 3) := dec_s2 oX12_nearOf (of154 _) 0 6 rfl (sg16p rfl) rfl
theorem dX12_nearOf_49 : decode cX12_nearOf 49 = .ok (.goto 45, 3) := dec_s2 oX12_nearOf (of167 _) 0 45 rfl (sg16p rfl) rfl
theorem dX12_nearOf_52 : decode cX12_nearOf 52 = .ok (.aload_n 0, 1) := dec_0 oX12_nearOf (of42 _) rfl
theorem dX12_nearOf_53 : decode cX12_nearOf 53 = .ok (.iload_n 1, 1) := dec_0 oX12_nearOf (of27 _) rfl
theorem dX12_nearOf_54 : decode cX12_nearOf 54 = .ok (.iload 4, 2) := dec_1 oX12_nearOf (of21 _) 4 rfl rfl
theorem dX12_nearOf_56 : decode cX12_nearOf 56 = .ok (.iload_n 2, 1) := dec_0 oX12_nearOf (of28 _) rfl
theorem dX12_nearOf_57 : decode cX12_nearOf 57 = .ok (.invokevirtual 384, 3) := dec_2 oX12_nearOf (of182 _) 1 128 rfl rfl
theorem dX12_nearOf_60 : decode cX12_nearOf 60 = .ok (.aload_n 0, 1) := dec_0 oX12_nearOf (of42 _) rfl
theorem dX12_nearOf_61 : decode cX12_nearOf 61 = .ok (.ldc_w 282, 3) := dec_2 oX12_nearOf (of19 _) 1 26 rfl rfl
theorem dX12_nearOf_64 : decode cX12_nearOf 64 = .ok (.invokevirtual 304, 3) := dec_2 oX12_nearOf (of182 _) 1 48 rfl rfl
theorem dX12_nearOf_67 : decode cX12_nearOf 67 = .ok (.istore 5, 2) := dec_1 oX12_nearOf (of54 _) 5 rfl rfl
theorem dX12_nearOf_69 : decode cX12_nearOf 69 = .ok (.iload_n 3, 1) := dec_0 oX12_nearOf (of29 _) rfl
theorem dX12_nearOf_70 : decode cX12_nearOf 70 = .ok (.ifCond .lt 15, 3) := dec_s2 oX12_nearOf (of155 _) 0 15 rfl (sg16p rfl) rfl
theorem dX12_nearOf_73 : decode cX12_nearOf 73 = .ok (.iload 5, 2) := dec_1 oX12_nearOf (of21 _) 5 rfl rfl
theorem dX12_nearOf_75 : decode cX12_nearOf 75 = .ok (.aload_n 0, 1) := dec_0 oX12_nearOf (of42 _) rfl
theorem dX12_nearOf_76 : decode cX12_nearOf 76 = .ok (.getfield 381, 3) := dec_2 oX12_nearOf (of180 _) 1 125 rfl rfl
theorem dX12_nearOf_79 : decode cX12_nearOf 79 = .ok (.if_icmp .lt 6, 3) := dec_s2 oX12_nearOf (of161 _) 0 6 rfl (sg16p rfl) rfl
theorem dX12_nearOf_82 : decode cX12_nearOf 82 = .ok (.goto 12, 3) := dec_s2 oX12_nearOf (of167 _) 0 12 rfl (sg16p rfl) rfl
theorem dX12_nearOf_85 : decode cX12_nearOf 85 = .ok (.iload 4, 2) := dec_1 oX12_nearOf (of21 _) 4 rfl rfl
theorem dX12_nearOf_87 : decode cX12_nearOf 87 = .ok (.istore_n 3, 1) := dec_0 oX12_nearOf (of62 _) rfl
theorem dX12_nearOf_88 : decode cX12_nearOf 88 = .ok (.aload_n 0, 1) := dec_0 oX12_nearOf (of42 _) rfl
theorem dX12_nearOf_89 : decode cX12_nearOf 89 = .ok (.iload 5, 2) := dec_1 oX12_nearOf (of21 _) 5 rfl rfl
theorem dX12_nearOf_91 : decode cX12_nearOf 91 = .ok (.putfield 381, 3) := dec_2 oX12_nearOf (of181 _) 1 125 rfl rfl
theorem dX12_nearOf_94 : decode cX12_nearOf 94 = .ok (.iinc 4 1, 3) := dec_ii oX12_nearOf (of132 _) 4 1 rfl (sg8p rfl) rfl
theorem dX12_nearOf_97 : decode cX12_nearOf 97 = .ok (.goto (-85), 3) := dec_s2 oX12_nearOf (of167 _) 255 171 rfl (sg16n (k := 85) rfl) rfl
theorem dX12_nearOf_100 : decode cX12_nearOf 100 = .ok (.iload_n 3, 1) := dec_0 oX12_nearOf (of29 _) rfl
theorem dX12_nearOf_101 : decode cX12_nearOf 101 = .ok (.ireturn, 1) := dec_0 oX12_nearOf (of172 _) rfl
theorem dX12_near_19 : decode cX12_near 19 = .ok (.iload_n 3, 1) := dec_0 oX12_near (of29 _) rfl
theorem dX12_near_20 : decode cX12_near 20 = .ok (.iconst 0, 1) := dec_0 oX12_near (of3 _) rfl
theorem dX12_near_21 : decode cX12_near 21 = .ok (.iconst 1, 1) := dec_0 oX12_near (of4 _) rfl
theorem dX12_near_22 : decode cX12_near 22 = .ok (.invokestatic 244, 3) := dec_2 oX12_near (of184 _) 0 244 rfl rfl
theorem dX12_near_25 : decode cX12_near 25 = .ok (.ifCond .ne 5, 3) := dec_s2 oX12_near (of154 _) 0 5 rfl (sg16p rfl) rfl
theorem dX12_near_30 : decode cX12_near 30 = .ok (.aload_n 0, 1) := dec_0 oX12_near (of42 _) rfl
theorem dX12_near_31 : decode cX12_near 31 = .ok (.invokevirtual 323, 3) := dec_2 oX12_near (of182 _) 1 67 rfl rfl
theorem dX12_near_34 : decode cX12_near 34 = .ok (.aload_n 0, 1) := dec_0 oX12_near (of42 _) rfl
theorem dX12_near_35 : decode cX12_near 35 = .ok (.iload_n 1, 1) := dec_0 oX12_near (of27 _) rfl
theorem dX12_near_36 : decode cX12_near 36 = .ok (.iload_n 2, 1) := dec_0 oX12_near (of28 _) rfl
theorem dX12_near_37 : decode cX12_near 37 = .ok (.invokevirtual 388, 3) := dec_2 oX12_near (of182 _) 1 132 rfl rfl
theorem dX12_near_40 : decode cX12_near 40 = .ok (.istore 4, 2) := dec_1 oX12_near (of54 _) 4 rfl rfl
theorem dX12_near_42 : decode cX12_near 42 = .ok (.iload_n 3, 1) := dec_0 oX12_near (of29 _) rfl
theorem dX12_near_43 : decode cX12_near 43 = .ok (.ifCond .ne 8, 3) := dec_s2 oX12_near (of154 _) 0 8 rfl (sg16p rfl) rfl
theorem dX12_near_46 : decode cX12_near 46 = .ok (.iload 4, 2) := dec_1 oX12_near (of21 _) 4 rfl rfl
theorem dX12_near_48 : decode cX12_near 48 = .ok (.goto 7, 3) := dec_s2 oX12_near (of167 _) 0 7 rfl (sg16p rfl) rfl
theorem dX12_near_51 : decode cX12_near 51 = .ok (.aload_n 0, 1) := dec_0 oX12_near (of42 _) rfl
theorem dX12_near_52 : decode cX12_near 52 = .ok (.getfield 381, 3) := dec_2 oX12_near (of180 _) 1 125 rfl rfl
theorem dX12_near_55 : decode cX12_near 55 = .ok (.ireturn, 1) := dec_0 oX12_near (of172 _) rfl
theorem dX12_pair_50 : decode cX12_pair 50 = .ok (.aload_n 0, 1) := dec_0 oX12_pair (of42 _) rfl
theorem dX12_pair_51 : decode cX12_pair 51 = .ok (.iload 6, 2) := dec_1 oX12_pair (of21 _) 6 rfl rfl
theorem dX12_pair_53 : decode cX12_pair 53 = .ok (.iload_n 1, 1) := dec_0 oX12_pair (of27 _) rfl
theorem dX12_pair_54 : decode cX12_pair 54 = .ok (.invokevirtual 257, 3) := dec_2 oX12_pair (of182 _) 1 1 rfl rfl
theorem dX12_pair_57 : decode cX12_pair 57 = .ok (.ifCond .ne 6, 3) := dec_s2 oX12_pair (of154 _) 0 6 rfl (sg16p rfl) rfl
theorem dX12_pair_60 : decode cX12_pair 60 = .ok (.goto 82, 3) := dec_s2 oX12_pair (of167 _) 0 82 rfl (sg16p rfl) rfl
theorem dX12_pair_63 : decode cX12_pair 63 = .ok (.iload 6, 2) := dec_1 oX12_pair (of21 _) 6 rfl rfl
theorem dX12_pair_65 : decode cX12_pair 65 = .ok (.iload_n 1, 1) := dec_0 oX12_pair (of27 _) rfl
theorem dX12_pair_66 : decode cX12_pair 66 = .ok (.iadd, 1) := dec_0 oX12_pair (of96 _) rfl
theorem dX12_pair_67 : decode cX12_pair 67 = .ok (.istore 7, 2) := dec_1 oX12_pair (of54 _) 7 rfl rfl
theorem dX12_pair_69 : decode cX12_pair 69 = .ok (.iload 7, 2) := dec_1 oX12_pair (of21 _) 7 rfl rfl
theorem dX12_pair_71 : decode cX12_pair 71 = .ok (.aload_n 0, 1) := dec_0 oX12_pair (of42 _) rfl
theorem dX12_pair_72 : decode cX12_pair 72 = .ok (.getfield 70, 3) := dec_2 oX12_pair (of180 _) 0 70 rfl rfl
theorem dX12_pair_75 : decode cX12_pair 75 = .ok (.iconst 0, 1) := dec_0 oX12_pair (of3 _) rfl
theorem dX12_pair_76 : decode cX12_pair 76 = .ok (.iaload, 1) := dec_0 oX12_pair (of46 _) rfl
theorem dX12_pair_77 : decode cX12_pair 77 = .ok (.if_icmp .ge 65, 3) := dec_s2 oX12_pair (of162 _) 0 65 rfl (sg16p rfl) rfl
theorem dX12_pair_80 : decode cX12_pair 80 = .ok (.aload_n 0, 1) := dec_0 oX12_pair (of42 _) rfl
theorem dX12_pair_81 : decode cX12_pair 81 = .ok (.iload 7, 2) := dec_1 oX12_pair (of21 _) 7 rfl rfl
theorem dX12_pair_83 : decode cX12_pair 83 = .ok (.iload_n 1, 1) := dec_0 oX12_pair (of27 _) rfl
theorem dX12_pair_84 : decode cX12_pair 84 = .ok (.invokevirtual 257, 3) := dec_2 oX12_pair (of182 _) 1 1 rfl rfl
theorem dX12_pair_87 : decode cX12_pair 87 = .ok (.ifCond .ne 6, 3) := dec_s2 oX12_pair (of154 _) 0 6 rfl (sg16p rfl) rfl
theorem dX12_pair_90 : decode cX12_pair 90 = .ok (.goto 46, 3) := dec_s2 oX12_pair (of167 _) 0 46 rfl (sg16p rfl) rfl
theorem dX12_pair_93 : decode cX12_pair 93 = .ok (.aload_n 0, 1) := dec_0 oX12_pair (of42 _) rfl
theorem dX12_pair_94 : decode cX12_pair 94 = .ok (.iload 6, 2) := dec_1 oX12_pair (of21 _) 6 rfl rfl
theorem dX12_pair_96 : decode cX12_pair 96 = .ok (.iload 7, 2) := dec_1 oX12_pair (of21 _) 7 rfl rfl
theorem dX12_pair_98 : decode cX12_pair 98 = .ok (.iload_n 1, 1) := dec_0 oX12_pair (of27 _) rfl
theorem dX12_pair_99 : decode cX12_pair 99 = .ok (.invokevirtual 384, 3) := dec_2 oX12_pair (of182 _) 1 128 rfl rfl
theorem dX12_pair_102 : decode cX12_pair 102 = .ok (.aload_n 0, 1) := dec_0 oX12_pair (of42 _) rfl
theorem dX12_pair_103 : decode cX12_pair 103 = .ok (.ldc_w 282, 3) := dec_2 oX12_pair (of19 _) 1 26 rfl rfl
theorem dX12_pair_106 : decode cX12_pair 106 = .ok (.invokevirtual 304, 3) := dec_2 oX12_pair (of182 _) 1 48 rfl rfl
theorem dX12_pair_109 : decode cX12_pair 109 = .ok (.istore 8, 2) := dec_1 oX12_pair (of54 _) 8 rfl rfl
theorem dX12_pair_111 : decode cX12_pair 111 = .ok (.iload_n 3, 1) := dec_0 oX12_pair (of29 _) rfl
theorem dX12_pair_112 : decode cX12_pair 112 = .ok (.ifCond .lt 13, 3) := dec_s2 oX12_pair (of155 _) 0 13 rfl (sg16p rfl) rfl
theorem dX12_pair_115 : decode cX12_pair 115 = .ok (.iload 8, 2) := dec_1 oX12_pair (of21 _) 8 rfl rfl
theorem dX12_pair_117 : decode cX12_pair 117 = .ok (.iload 5, 2) := dec_1 oX12_pair (of21 _) 5 rfl rfl
theorem dX12_pair_119 : decode cX12_pair 119 = .ok (.if_icmp .lt 6, 3) := dec_s2 oX12_pair (of161 _) 0 6 rfl (sg16p rfl) rfl
theorem dX12_pair_122 : decode cX12_pair 122 = .ok (.goto 14, 3) := dec_s2 oX12_pair (of167 _) 0 14 rfl (sg16p rfl) rfl
theorem dX12_pair_125 : decode cX12_pair 125 = .ok (.iload 6, 2) := dec_1 oX12_pair (of21 _) 6 rfl rfl
theorem dX12_pair_127 : decode cX12_pair 127 = .ok (.istore_n 3, 1) := dec_0 oX12_pair (of62 _) rfl
theorem dX12_pair_128 : decode cX12_pair 128 = .ok (.iload 7, 2) := dec_1 oX12_pair (of21 _) 7 rfl rfl
theorem dX12_pair_130 : decode cX12_pair 130 = .ok (.istore 4, 2) := dec_1 oX12_pair (of54 _) 4 rfl rfl
theorem dX12_pair_132 : decode cX12_pair 132 = .ok (.iload 8, 2) := dec_1 oX12_pair (of21 _) 8 rfl rfl
theorem dX12_pair_134 : decode cX12_pair 134 = .ok (.istore 5, 2) := dec_1 oX12_pair (of54 _) 5 rfl rfl
theorem dX12_pair_136 : decode cX12_pair 136 = .ok (.iinc 7 1, 3) := dec_ii oX12_pair (of132 _) 7 1 rfl (sg8p rfl) rfl
theorem dX12_pair_139 : decode cX12_pair 139 = .ok (.goto (-70), 3) := dec_s2 oX12_pair (of167 _) 255 186 rfl (sg16n (k := 70) rfl) rfl
theorem dX12_pair_142 : decode cX12_pair 142 = .ok (.iinc 6 1, 3) := dec_ii oX12_pair (of132 _) 6 1 rfl (sg8p rfl) rfl
theorem dX12_pair_145 : decode cX12_pair 145 = .ok (.goto (-106), 3) := dec_s2 oX12_pair (of167 _) 255 150 rfl (sg16n (k := 106) rfl) rfl
theorem dX12_odd_46 : decode cX12_odd 46 = .ok (.aload_n 0, 1) := dec_0 oX12_odd (of42 _) rfl
theorem dX12_odd_47 : decode cX12_odd 47 = .ok (.iload 5, 2) := dec_1 oX12_odd (of21 _) 5 rfl rfl
theorem dX12_odd_49 : decode cX12_odd 49 = .ok (.iload_n 1, 1) := dec_0 oX12_odd (of27 _) rfl
theorem dX12_odd_50 : decode cX12_odd 50 = .ok (.invokevirtual 257, 3) := dec_2 oX12_odd (of182 _) 1 1 rfl rfl
theorem dX12_odd_53 : decode cX12_odd 53 = .ok (.ifCond .eq 34, 3) := dec_s2 oX12_odd (of153 _) 0 34 rfl (sg16p rfl) rfl
theorem dX12_odd_56 : decode cX12_odd 56 = .ok (.aload_n 0, 1) := dec_0 oX12_odd (of42 _) rfl
theorem dX12_odd_57 : decode cX12_odd 57 = .ok (.iload 5, 2) := dec_1 oX12_odd (of21 _) 5 rfl rfl
theorem dX12_odd_59 : decode cX12_odd 59 = .ok (.iload_n 1, 1) := dec_0 oX12_odd (of27 _) rfl
theorem dX12_odd_60 : decode cX12_odd 60 = .ok (.invokevirtual 388, 3) := dec_2 oX12_odd (of182 _) 1 132 rfl rfl
theorem dX12_odd_63 : decode cX12_odd 63 = .ok (.ifCond .lt 24, 3) := dec_s2 oX12_odd (of155 _) 0 24 rfl (sg16p rfl) rfl
theorem dX12_odd_66 : decode cX12_odd 66 = .ok (.aload_n 0, 1) := dec_0 oX12_odd (of42 _) rfl
theorem dX12_odd_67 : decode cX12_odd 67 = .ok (.getfield 381, 3) := dec_2 oX12_odd (of180 _) 1 125 rfl rfl
theorem dX12_odd_70 : decode cX12_odd 70 = .ok (.iload 4, 2) := dec_1 oX12_odd (of21 _) 4 rfl rfl
theorem dX12_odd_72 : decode cX12_odd 72 = .ok (.if_icmp .gt 6, 3) := dec_s2 oX12_odd (of163 _) 0 6 rfl (sg16p rfl) rfl
theorem dX12_odd_75 : decode cX12_odd 75 = .ok (.goto 12, 3) := dec_s2 oX12_odd (of167 _) 0 12 rfl (sg16p rfl) rfl
theorem dX12_odd_78 : decode cX12_odd 78 = .ok (.iload 5, 2) := dec_1 oX12_odd (of21 _) 5 rfl rfl
theorem dX12_odd_80 : decode cX12_odd 80 = .ok (.istore_n 3, 1) := dec_0 oX12_odd (of62 _) rfl
theorem dX12_odd_81 : decode cX12_odd 81 = .ok (.aload_n 0, 1) := dec_0 oX12_odd (of42 _) rfl
theorem dX12_odd_82 : decode cX12_odd 82 = .ok (.getfield 381, 3) := dec_2 oX12_odd (of180 _) 1 125 rfl rfl
theorem dX12_odd_85 : decode cX12_odd 85 = .ok (.istore 4, 2) := dec_1 oX12_odd (of54 _) 4 rfl rfl
theorem dX12_odd_87 : decode cX12_odd 87 = .ok (.iinc 5 1, 3) := dec_ii oX12_odd (of132 _) 5 1 rfl (sg8p rfl) rfl
theorem dX12_odd_90 : decode cX12_odd 90 = .ok (.goto (-55), 3) := dec_s2 oX12_odd (of167 _) 255 201 rfl (sg16n (k := 55) rfl) rfl
theorem dX12_restore_20 : decode cX12_restore 20 = .ok (.iconst 0, 1) := dec_0 oX12_restore (of3 _) rfl
theorem dX12_restore_21 : decode cX12_restore 21 = .ok (.istore_n 2, 1) := dec_0 oX12_restore (of61 _) rfl
theorem dX12_restore_22 : decode cX12_restore 22 = .ok (.iload_n 2, 1) := dec_0 oX12_restore (of28 _) rfl
theorem dX12_restore_23 : decode cX12_restore 23 = .ok (.sipush 165, 3) := dec_s2 oX12_restore (of17 _) 0 165 rfl (sg16p rfl) rfl
theorem dX12_restore_26 : decode cX12_restore 26 = .ok (.if_icmp .ge 27, 3) := dec_s2 oX12_restore (of162 _) 0 27 rfl (sg16p rfl) rfl
theorem dX12_restore_29 : decode cX12_restore 29 = .ok (.aload_n 0, 1) := dec_0 oX12_restore (of42 _) rfl
theorem dX12_restore_30 : decode cX12_restore 30 = .ok (.getfield 70, 3) := dec_2 oX12_restore (of180 _) 0 70 rfl rfl
theorem dX12_restore_33 : decode cX12_restore 33 = .ok (.iload_n 2, 1) := dec_0 oX12_restore (of28 _) rfl
theorem dX12_restore_34 : decode cX12_restore 34 = .ok (.aload_n 0, 1) := dec_0 oX12_restore (of42 _) rfl
theorem dX12_restore_35 : decode cX12_restore 35 = .ok (.getfield 104, 3) := dec_2 oX12_restore (of180 _) 0 104 rfl rfl
theorem dX12_restore_38 : decode cX12_restore 38 = .ok (.sipush 165, 3) := dec_s2 oX12_restore (of17 _) 0 165 rfl (sg16p rfl) rfl
theorem dX12_restore_41 : decode cX12_restore 41 = .ok (.iload_n 1, 1) := dec_0 oX12_restore (of27 _) rfl
theorem dX12_restore_42 : decode cX12_restore 42 = .ok (.imul, 1) := dec_0 oX12_restore (of104 _) rfl
theorem dX12_restore_43 : decode cX12_restore 43 = .ok (.iload_n 2, 1) := dec_0 oX12_restore (of28 _) rfl
theorem dX12_restore_44 : decode cX12_restore 44 = .ok (.iadd, 1) := dec_0 oX12_restore (of96 _) rfl
theorem dX12_restore_45 : decode cX12_restore 45 = .ok (.iaload, 1) := dec_0 oX12_restore (of46 _) rfl
theorem dX12_restore_46 : decode cX12_restore 46 = .ok (.iastore, 1) := dec_0 oX12_restore (of79 _) rfl
theorem dX12_restore_47 : decode cX12_restore 47 = .ok (.iinc 2 1, 3) := dec_ii oX12_restore (of132 _) 2 1 rfl (sg8p rfl) rfl
theorem dX12_restore_50 : decode cX12_restore 50 = .ok (.goto (-28), 3) := dec_s2 oX12_restore (of167 _) 255 228 rfl (sg16n (k := 28) rfl) rfl
theorem dX12_restore_53 : decode cX12_restore 53 = .ok (.aload_n 0, 1) := dec_0 oX12_restore (of42 _) rfl
theorem dX12_restore_54 : decode cX12_restore 54 = .ok (.iconst 0, 1) := dec_0 oX12_restore (of3 _) rfl
theorem dX12_restore_55 : decode cX12_restore 55 = .ok (.putfield 209, 3) := dec_2 oX12_restore (of181 _) 0 209 rfl rfl
theorem dX12_restore_58 : decode cX12_restore 58 = .ok (.iconst 1, 1) := dec_0 oX12_restore (of4 _) rfl
theorem dX12_restore_59 : decode cX12_restore 59 = .ok (.ireturn, 1) := dec_0 oX12_restore (of172 _) rfl
theorem dX12_gaps_14 : decode cX12_gaps 14 = .ok (.aload_n 0, 1) := dec_0 oX12_gaps (of42 _) rfl
theorem dX12_gaps_15 : decode cX12_gaps 15 = .ok (.iload_n 2, 1) := dec_0 oX12_gaps (of28 _) rfl
theorem dX12_gaps_16 : decode cX12_gaps 16 = .ok (.invokevirtual 320, 3) := dec_2 oX12_gaps (of182 _) 1 64 rfl rfl
theorem dX12_gaps_19 : decode cX12_gaps 19 = .ok (.ifCond .ne 6, 3) := dec_s2 oX12_gaps (of154 _) 0 6 rfl (sg16p rfl) rfl
theorem dX12_gaps_22 : decode cX12_gaps 22 = .ok (.iinc 1 1, 3) := dec_ii oX12_gaps (of132 _) 1 1 rfl (sg8p rfl) rfl
theorem dX12_gaps_25 : decode cX12_gaps 25 = .ok (.iinc 2 1, 3) := dec_ii oX12_gaps (of132 _) 2 1 rfl (sg8p rfl) rfl
theorem dX12_gaps_28 : decode cX12_gaps 28 = .ok (.goto (-24), 3) := dec_s2 oX12_gaps (of167 _) 255 232 rfl (sg16n (k := 24) rfl) rfl
theorem dX12_count_151 : decode cX12_count 151 = .ok (.iinc 2 1, 3) := dec_ii oX12_count (of132 _) 2 1 rfl (sg8p rfl) rfl
theorem dX12_count_154 : decode cX12_count 154 = .ok (.goto (-20), 3) := dec_s2 oX12_count (of167 _) 255 236 rfl (sg16n (k := 20) rfl) rfl
theorem dX12_count_181 : decode cX12_count 181 = .ok (.aload_n 0, 1) := dec_0 oX12_count (of42 _) rfl
theorem dX12_count_182 : decode cX12_count 182 = .ok (.iload_n 3, 1) := dec_0 oX12_count (of29 _) rfl
theorem dX12_count_183 : decode cX12_count 183 = .ok (.invokevirtual 320, 3) := dec_2 oX12_count (of182 _) 1 64 rfl rfl
theorem dX12_count_186 : decode cX12_count 186 = .ok (.ifCond .eq 14, 3) := dec_s2 oX12_count (of153 _) 0 14 rfl (sg16p rfl) rfl
theorem dX12_count_189 : decode cX12_count 189 = .ok (.iload_n 2, 1) := dec_0 oX12_count (of28 _) rfl
theorem dX12_count_190 : decode cX12_count 190 = .ok (.aload_n 0, 1) := dec_0 oX12_count (of42 _) rfl
theorem dX12_count_191 : decode cX12_count 191 = .ok (.getfield 70, 3) := dec_2 oX12_count (of180 _) 0 70 rfl rfl
theorem dX12_count_194 : decode cX12_count 194 = .ok (.iconst 1, 1) := dec_0 oX12_count (of4 _) rfl
theorem dX12_count_195 : decode cX12_count 195 = .ok (.iload_n 3, 1) := dec_0 oX12_count (of29 _) rfl
theorem dX12_count_196 : decode cX12_count 196 = .ok (.iadd, 1) := dec_0 oX12_count (of96 _) rfl
theorem dX12_count_197 : decode cX12_count 197 = .ok (.iaload, 1) := dec_0 oX12_count (of46 _) rfl
theorem dX12_count_198 : decode cX12_count 198 = .ok (.iadd, 1) := dec_0 oX12_count (of96 _) rfl
theorem dX12_count_199 : decode cX12_count 199 = .ok (.istore_n 2, 1) := dec_0 oX12_count (of61 _) rfl
theorem dX12_count_200 : decode cX12_count 200 = .ok (.iinc 3 1, 3) := dec_ii oX12_count (of132 _) 3 1 rfl (sg8p rfl) rfl
theorem dX12_count_203 : decode cX12_count 203 = .ok (.goto (-32), 3) := dec_s2 oX12_count (of167 _) 255 224 rfl (sg16n (k := 32) rfl) rfl
theorem dX12_count_217 : decode cX12_count 217 = .ok (.iconst 1, 1) := dec_0 oX12_count (of4 _) rfl
theorem dX12_count_218 : decode cX12_count 218 = .ok (.goto 4, 3) := dec_s2 oX12_count (of167 _) 0 4 rfl (sg16p rfl) rfl
theorem dX12_count_231 : decode cX12_count 231 = .ok (.iconst 1, 1) := dec_0 oX12_count (of4 _) rfl
theorem dX12_count_232 : decode cX12_count 232 = .ok (.goto 4, 3) := dec_s2 oX12_count (of167 _) 0 4 rfl (sg16p rfl) rfl
theorem dX12_count_246 : decode cX12_count 246 = .ok (.iconst 1, 1) := dec_0 oX12_count (of4 _) rfl
theorem dX12_count_247 : decode cX12_count 247 = .ok (.goto 4, 3) := dec_s2 oX12_count (of167 _) 0 4 rfl (sg16p rfl) rfl
theorem dX12_count_269 : decode cX12_count 269 = .ok (.aload_n 0, 1) := dec_0 oX12_count (of42 _) rfl
theorem dX12_count_270 : decode cX12_count 270 = .ok (.iload_n 3, 1) := dec_0 oX12_count (of29 _) rfl
theorem dX12_count_271 : decode cX12_count 271 = .ok (.invokevirtual 320, 3) := dec_2 oX12_count (of182 _) 1 64 rfl rfl
theorem dX12_count_274 : decode cX12_count 274 = .ok (.ifCond .eq 24, 3) := dec_s2 oX12_count (of153 _) 0 24 rfl (sg16p rfl) rfl
theorem dX12_count_277 : decode cX12_count 277 = .ok (.aload_n 0, 1) := dec_0 oX12_count (of42 _) rfl
theorem dX12_count_278 : decode cX12_count 278 = .ok (.getfield 70, 3) := dec_2 oX12_count (of180 _) 0 70 rfl rfl
theorem dX12_count_281 : decode cX12_count 281 = .ok (.iconst 1, 1) := dec_0 oX12_count (of4 _) rfl
theorem dX12_count_282 : decode cX12_count 282 = .ok (.iload_n 3, 1) := dec_0 oX12_count (of29 _) rfl
theorem dX12_count_283 : decode cX12_count 283 = .ok (.iadd, 1) := dec_0 oX12_count (of96 _) rfl
theorem dX12_count_284 : decode cX12_count 284 = .ok (.iaload, 1) := dec_0 oX12_count (of46 _) rfl
theorem dX12_count_285 : decode cX12_count 285 = .ok (.iload_n 2, 1) := dec_0 oX12_count (of28 _) rfl
theorem dX12_count_286 : decode cX12_count 286 = .ok (.if_icmp .le 12, 3) := dec_s2 oX12_count (of164 _) 0 12 rfl (sg16p rfl) rfl
theorem dX12_count_289 : decode cX12_count 289 = .ok (.aload_n 0, 1) := dec_0 oX12_count (of42 _) rfl
theorem dX12_count_290 : decode cX12_count 290 = .ok (.getfield 70, 3) := dec_2 oX12_count (of180 _) 0 70 rfl rfl
theorem dX12_count_293 : decode cX12_count 293 = .ok (.iconst 1, 1) := dec_0 oX12_count (of4 _) rfl
theorem dX12_count_294 : decode cX12_count 294 = .ok (.iload_n 3, 1) := dec_0 oX12_count (of29 _) rfl
theorem dX12_count_295 : decode cX12_count 295 = .ok (.iadd, 1) := dec_0 oX12_count (of96 _) rfl
theorem dX12_count_296 : decode cX12_count 296 = .ok (.iaload, 1) := dec_0 oX12_count (of46 _) rfl
theorem dX12_count_297 : decode cX12_count 297 = .ok (.istore_n 2, 1) := dec_0 oX12_count (of61 _) rfl
theorem dX12_count_298 : decode cX12_count 298 = .ok (.iinc 3 1, 3) := dec_ii oX12_count (of132 _) 3 1 rfl (sg8p rfl) rfl
theorem dX12_count_301 : decode cX12_count 301 = .ok (.goto (-42), 3) := dec_s2 oX12_count (of167 _) 255 214 rfl (sg16n (k := 42) rfl) rfl
theorem dX12_count_321 : decode cX12_count 321 = .ok (.aload_n 0, 1) := dec_0 oX12_count (of42 _) rfl
theorem dX12_count_322 : decode cX12_count 322 = .ok (.getfield 70, 3) := dec_2 oX12_count (of180 _) 0 70 rfl rfl
theorem dX12_count_325 : decode cX12_count 325 = .ok (.iconst 1, 1) := dec_0 oX12_count (of4 _) rfl
theorem dX12_count_326 : decode cX12_count 326 = .ok (.iload_n 3, 1) := dec_0 oX12_count (of29 _) rfl
theorem dX12_count_327 : decode cX12_count 327 = .ok (.iadd, 1) := dec_0 oX12_count (of96 _) rfl
theorem dX12_count_328 : decode cX12_count 328 = .ok (.iaload, 1) := dec_0 oX12_count (of46 _) rfl
theorem dX12_count_329 : decode cX12_count 329 = .ok (.iload_n 2, 1) := dec_0 oX12_count (of28 _) rfl
theorem dX12_count_330 : decode cX12_count 330 = .ok (.if_icmp .ge 12, 3) := dec_s2 oX12_count (of162 _) 0 12 rfl (sg16p rfl) rfl
theorem dX12_count_333 : decode cX12_count 333 = .ok (.aload_n 0, 1) := dec_0 oX12_count (of42 _) rfl
theorem dX12_count_334 : decode cX12_count 334 = .ok (.getfield 70, 3) := dec_2 oX12_count (of180 _) 0 70 rfl rfl
theorem dX12_count_337 : decode cX12_count 337 = .ok (.iconst 1, 1) := dec_0 oX12_count (of4 _) rfl
theorem dX12_count_338 : decode cX12_count 338 = .ok (.iload_n 3, 1) := dec_0 oX12_count (of29 _) rfl
theorem dX12_count_339 : decode cX12_count 339 = .ok (.iadd, 1) := dec_0 oX12_count (of96 _) rfl
theorem dX12_count_340 : decode cX12_count 340 = .ok (.iaload, 1) := dec_0 oX12_count (of46 _) rfl
theorem dX12_count_341 : decode cX12_count 341 = .ok (.istore_n 2, 1) := dec_0 oX12_count (of61 _) rfl
theorem dX12_count_342 : decode cX12_count 342 = .ok (.iinc 3 1, 3) := dec_ii oX12_count (of132 _) 3 1 rfl (sg8p rfl) rfl
theorem dX12_count_345 : decode cX12_count 345 = .ok (.goto (-34), 3) := dec_s2 oX12_count (of167 _) 255 222 rfl (sg16n (k := 34) rfl) rfl
theorem dX12_count_360 : decode cX12_count 360 = .ok (.iload_n 2, 1) := dec_0 oX12_count (of28 _) rfl
theorem dX12_count_370 : decode cX12_count 370 = .ok (.iinc 2 1, 3) := dec_ii oX12_count (of132 _) 2 1 rfl (sg8p rfl) rfl
theorem dX12_count_373 : decode cX12_count 373 = .ok (.goto (-11), 3) := dec_s2 oX12_count (of167 _) 255 245 rfl (sg16n (k := 11) rfl) rfl
theorem dJ9_floorDiv_7cf53_0 : decode cJ9_floorDiv_7cf53 0 = .ok (.iload_n 0, 1) := dec_0 oJ9_floorDiv_7cf53 (of26 _) rfl
theorem dJ9_floorDiv_7cf53_1 : decode cJ9_floorDiv_7cf53 1 = .ok (.iload_n 1, 1) := dec_0 oJ9_floorDiv_7cf53 (of27 _) rfl
theorem dJ9_floorDiv_7cf53_2 : decode cJ9_floorDiv_7cf53 2 = .ok (.idiv, 1) := dec_0 oJ9_floorDiv_7cf53 (of108 _) rfl
theorem dJ9_floorDiv_7cf53_3 : decode cJ9_floorDiv_7cf53 3 = .ok (.istore_n 2, 1) := dec_0 oJ9_floorDiv_7cf53 (of61 _) rfl
theorem dJ9_floorDiv_7cf53_4 : decode cJ9_floorDiv_7cf53 4 = .ok (.iload_n 0, 1) := dec_0 oJ9_floorDiv_7cf53 (of26 _) rfl
theorem dJ9_floorDiv_7cf53_5 : decode cJ9_floorDiv_7cf53 5 = .ok (.iload_n 1, 1) := dec_0 oJ9_floorDiv_7cf53 (of27 _) rfl
theorem dJ9_floorDiv_7cf53_6 : decode cJ9_floorDiv_7cf53 6 = .ok (.ixor, 1) := dec_0 oJ9_floorDiv_7cf53 (of130 _) rfl
theorem dJ9_floorDiv_7cf53_7 : decode cJ9_floorDiv_7cf53 7 = .ok (.ifCond .ge 14, 3) := dec_s2 oJ9_floorDiv_7cf53 (of156 _) 0 14 rfl (sg16p rfl) rfl
theorem dJ9_floorDiv_7cf53_10 : decode cJ9_floorDiv_7cf53 10 = .ok (.iload_n 2, 1) := dec_0 oJ9_floorDiv_7cf53 (of28 _) rfl
theorem dJ9_floorDiv_7cf53_11 : decode cJ9_floorDiv_7cf53 11 = .ok (.iload_n 1, 1) := dec_0 oJ9_floorDiv_7cf53 (of27 _) rfl
theorem dJ9_floorDiv_7cf53_12 : decode cJ9_floorDiv_7cf53 12 = .ok (.imul, 1) := dec_0 oJ9_floorDiv_7cf53 (of104 _) rfl
theorem dJ9_floorDiv_7cf53_13 : decode cJ9_floorDiv_7cf53 13 = .ok (.iload_n 0, 1) := dec_0 oJ9_floorDiv_7cf53 (of26 _) rfl
theorem dJ9_floorDiv_7cf53_14 : decode cJ9_floorDiv_7cf53 14 = .ok (.if_icmp .eq 7, 3) := dec_s2 oJ9_floorDiv_7cf53 (of159 _) 0 7 rfl (sg16p rfl) rfl
theorem dJ9_floorDiv_7cf53_17 : decode cJ9_floorDiv_7cf53 17 = .ok (.iload_n 2, 1) := dec_0 oJ9_floorDiv_7cf53 (of28 _) rfl
theorem dJ9_floorDiv_7cf53_18 : decode cJ9_floorDiv_7cf53 18 = .ok (.iconst 1, 1) := dec_0 oJ9_floorDiv_7cf53 (of4 _) rfl
theorem dJ9_floorDiv_7cf53_19 : decode cJ9_floorDiv_7cf53 19 = .ok (.isub, 1) := dec_0 oJ9_floorDiv_7cf53 (of100 _) rfl
theorem dJ9_floorDiv_7cf53_20 : decode cJ9_floorDiv_7cf53 20 = .ok (.ireturn, 1) := dec_0 oJ9_floorDiv_7cf53 (of172 _) rfl
theorem dJ9_floorDiv_7cf53_21 : decode cJ9_floorDiv_7cf53 21 = .ok (.iload_n 2, 1) := dec_0 oJ9_floorDiv_7cf53 (of28 _) rfl
theorem dJ9_floorDiv_7cf53_22 : decode cJ9_floorDiv_7cf53 22 = .ok (.ireturn, 1) := dec_0 oJ9_floorDiv_7cf53 (of172 _) rfl
