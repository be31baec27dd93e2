theorem dX5_hasRoom_80 : decode cX5_hasRoom 80 = .ok (.iconst 3, 1) := dec_0 oX5_hasRoom (of6 _) rfl
theorem dX5_hasRoom_81 : decode cX5_hasRoom 81 = .ok (.if_icmp .eq 16, 3) := dec_s2 oX5_hasRoom (of159 _) 0 16 rfl (sg16p rfl) rfl
theorem dX5_hasRoom_84 : decode cX5_hasRoom 84 = .ok (.aload_n 0, 1) := dec_0 oX5_hasRoom (of42 _) rfl
theorem dX5_hasRoom_85 : decode cX5_hasRoom 85 = .ok (.getfield 12, 3) := dec_2 oX5_hasRoom (of180 _) 0 12 rfl rfl
theorem dX5_hasRoom_88 : decode cX5_hasRoom 88 = .ok (.getfield 127, 3) := dec_2 oX5_hasRoom (of180 _) 0 127 rfl rfl
theorem dX5_hasRoom_91 : decode cX5_hasRoom 91 = .ok (.sipush 160, 3) := dec_s2 oX5_hasRoom (of17 _) 0 160 rfl (sg16p rfl) rfl
theorem dX5_hasRoom_94 : decode cX5_hasRoom 94 = .ok (.if_icmp .ge 7, 3) := dec_s2 oX5_hasRoom (of162 _) 0 7 rfl (sg16p rfl) rfl
theorem dX5_hasRoom_97 : decode cX5_hasRoom 97 = .ok (.iconst 1, 1) := dec_0 oX5_hasRoom (of4 _) rfl
theorem dX5_hasRoom_98 : decode cX5_hasRoom 98 = .ok (.goto 4, 3) := dec_s2 oX5_hasRoom (of167 _) 0 4 rfl (sg16p rfl) rfl
theorem dX5_hasRoom_101 : decode cX5_hasRoom 101 = .ok (.iconst 0, 1) := dec_0 oX5_hasRoom (of3 _) rfl
theorem dX5_hasRoom_102 : decode cX5_hasRoom 102 = .ok (.ireturn, 1) := dec_0 oX5_hasRoom (of172 _) rfl
theorem dX5_hasRoom_103 : decode cX5_hasRoom 103 = .ok (.aload_n 0, 1) := dec_0 oX5_hasRoom (of42 _) rfl
theorem dX5_hasRoom_104 : decode cX5_hasRoom 104 = .ok (.getfield 42, 3) := dec_2 oX5_hasRoom (of180 _) 0 42 rfl rfl
theorem dX5_hasRoom_107 : decode cX5_hasRoom 107 = .ok (.getfield 53, 3) := dec_2 oX5_hasRoom (of180 _) 0 53 rfl rfl
theorem dX5_hasRoom_110 : decode cX5_hasRoom 110 = .ok (.iconst 3, 1) := dec_0 oX5_hasRoom (of6 _) rfl
theorem dX5_hasRoom_111 : decode cX5_hasRoom 111 = .ok (.if_icmp .eq 12, 3) := dec_s2 oX5_hasRoom (of159 _) 0 12 rfl (sg16p rfl) rfl
theorem dX5_hasRoom_114 : decode cX5_hasRoom 114 = .ok (.aload_n 0, 1) := dec_0 oX5_hasRoom (of42 _) rfl
theorem dX5_hasRoom_115 : decode cX5_hasRoom 115 = .ok (.getfield 32, 3) := dec_2 oX5_hasRoom (of180 _) 0 32 rfl rfl
theorem dX5_hasRoom_118 : decode cX5_hasRoom 118 = .ok (.bipush 16, 2) := dec_s1 oX5_hasRoom (of16 _) 16 rfl (sg8p rfl) rfl
theorem dX5_hasRoom_120 : decode cX5_hasRoom 120 = .ok (.if_icmp .ge 7, 3) := dec_s2 oX5_hasRoom (of162 _) 0 7 rfl (sg16p rfl) rfl
theorem dX5_hasRoom_123 : decode cX5_hasRoom 123 = .ok (.iconst 1, 1) := dec_0 oX5_hasRoom (of4 _) rfl
theorem dX5_hasRoom_124 : decode cX5_hasRoom 124 = .ok (.goto 4, 3) := dec_s2 oX5_hasRoom (of167 _) 0 4 rfl (sg16p rfl) rfl
theorem dX5_hasRoom_127 : decode cX5_hasRoom 127 = .ok (.iconst 0, 1) := dec_0 oX5_hasRoom (of3 _) rfl
theorem dX5_hasRoom_128 : decode cX5_hasRoom 128 = .ok (.ireturn, 1) := dec_0 oX5_hasRoom (of172 _) rfl
theorem dX5_hasRoom_129 : decode cX5_hasRoom 129 = .ok (.iconst 1, 1) := dec_0 oX5_hasRoom (of4 _) rfl
theorem dX5_hasRoom_130 : decode cX5_hasRoom 130 = .ok (.ireturn, 1) := dec_0 oX5_hasRoom (of172 _) rfl
theorem dX5_accept_0 : decode cX5_accept 0 = .ok (.aload_n 0, 1) := dec_0 oX5_accept (of42 _) rfl
theorem dX5_accept_1 : decode cX5_accept 1 = .ok (.getfield 75, 3) := dec_2 oX5_accept (of180 _) 0 75 rfl rfl
theorem dX5_accept_4 : decode cX5_accept 4 = .ok (.tableswitch 100 0 6 #[44, 100, 51, 100, 58, 65, 92], 44) := by decide +kernel
theorem dX5_accept_48 : decode cX5_accept 48 = .ok (.aload_n 0, 1) := dec_0 oX5_accept (of42 _) rfl
theorem dX5_accept_49 : decode cX5_accept 49 = .ok (.invokevirtual 128, 3) := dec_2 oX5_accept (of182 _) 0 128 rfl rfl
theorem dX5_accept_52 : decode cX5_accept 52 = .ok (.goto 56, 3) := dec_s2 oX5_accept (of167 _) 0 56 rfl (sg16p rfl) rfl
theorem dX5_accept_55 : decode cX5_accept 55 = .ok (.aload_n 0, 1) := dec_0 oX5_accept (of42 _) rfl
theorem dX5_accept_56 : decode cX5_accept 56 = .ok (.invokevirtual 131, 3) := dec_2 oX5_accept (of182 _) 0 131 rfl rfl
theorem dX5_accept_59 : decode cX5_accept 59 = .ok (.goto 49, 3) := dec_s2 oX5_accept (of167 _) 0 49 rfl (sg16p rfl) rfl
theorem dX5_accept_62 : decode cX5_accept 62 = .ok (.aload_n 0, 1) := dec_0 oX5_accept (of42 _) rfl
theorem dX5_accept_63 : decode cX5_accept 63 = .ok (.invokevirtual 134, 3) := dec_2 oX5_accept (of182 _) 0 134 rfl rfl
theorem dX5_accept_66 : decode cX5_accept 66 = .ok (.goto 42, 3) := dec_s2 oX5_accept (of167 _) 0 42 rfl (sg16p rfl) rfl
theorem dX5_accept_69 : decode cX5_accept 69 = .ok (.aload_n 0, 1) := dec_0 oX5_accept (of42 _) rfl
theorem dX5_accept_70 : decode cX5_accept 70 = .ok (.getfield 12, 3) := dec_2 oX5_accept (of180 _) 0 12 rfl rfl
theorem dX5_accept_73 : decode cX5_accept 73 = .ok (.getfield 137, 3) := dec_2 oX5_accept (of180 _) 0 137 rfl rfl
theorem dX5_accept_76 : decode cX5_accept 76 = .ok (.aload_n 0, 1) := dec_0 oX5_accept (of42 _) rfl
theorem dX5_accept_77 : decode cX5_accept 77 = .ok (.getfield 141, 3) := dec_2 oX5_accept (of180 _) 0 141 rfl rfl
theorem dX5_accept_80 : decode cX5_accept 80 = .ok (.aload_n 0, 1) := dec_0 oX5_accept (of42 _) rfl
theorem dX5_accept_81 : decode cX5_accept 81 = .ok (.invokevirtual 115, 3) := dec_2 oX5_accept (of182 _) 0 115 rfl rfl
theorem dX5_accept_84 : decode cX5_accept 84 = .ok (.invokevirtual 144, 3) := dec_2 oX5_accept (of182 _) 0 144 rfl rfl
theorem dX5_accept_87 : decode cX5_accept 87 = .ok (.aload_n 0, 1) := dec_0 oX5_accept (of42 _) rfl
theorem dX5_accept_88 : decode cX5_accept 88 = .ok (.bipush 6, 2) := dec_s1 oX5_accept (of16 _) 6 rfl (sg8p rfl) rfl
theorem dX5_accept_90 : decode cX5_accept 90 = .ok (.putfield 75, 3) := dec_2 oX5_accept (of181 _) 0 75 rfl rfl
theorem dX5_accept_93 : decode cX5_accept 93 = .ok (.goto 15, 3) := dec_s2 oX5_accept (of167 _) 0 15 rfl (sg16p rfl) rfl
theorem dX5_accept_96 : decode cX5_accept 96 = .ok (.aload_n 0, 1) := dec_0 oX5_accept (of42 _) rfl
theorem dX5_accept_97 : decode cX5_accept 97 = .ok (.iconst 0, 1) := dec_0 oX5_accept (of3 _) rfl
theorem dX5_accept_98 : decode cX5_accept 98 = .ok (.putfield 75, 3) := dec_2 oX5_accept (of181 _) 0 75 rfl rfl
theorem dX5_accept_101 : decode cX5_accept 101 = .ok (.goto 7, 3) := dec_s2 oX5_accept (of167 _) 0 7 rfl (sg16p rfl) rfl
theorem dX5_accept_104 : decode cX5_accept 104 = .ok (.aload_n 0, 1) := dec_0 oX5_accept (of42 _) rfl
theorem dX5_accept_105 : decode cX5_accept 105 = .ok (.invokevirtual 150, 3) := dec_2 oX5_accept (of182 _) 0 150 rfl rfl
theorem dX5_accept_108 : decode cX5_accept 108 = .ok (.return_, 1) := dec_0 oX5_accept (of177 _) rfl
theorem dX5_tellAtHand_0 : decode cX5_tellAtHand 0 = .ok (.aload_n 0, 1) := dec_0 oX5_tellAtHand (of42 _) rfl
theorem dX5_tellAtHand_1 : decode cX5_tellAtHand 1 = .ok (.getfield 42, 3) := dec_2 oX5_tellAtHand (of180 _) 0 42 rfl rfl
theorem dX5_tellAtHand_4 : decode cX5_tellAtHand 4 = .ok (.ldc 153, 2) := dec_1 oX5_tellAtHand (of18 _) 153 rfl rfl
theorem dX5_tellAtHand_6 : decode cX5_tellAtHand 6 = .ok (.invokevirtual 108, 3) := dec_2 oX5_tellAtHand (of182 _) 0 108 rfl rfl
theorem dX5_tellAtHand_9 : decode cX5_tellAtHand 9 = .ok (.ifCond .eq 5, 3) := dec_s2 oX5_tellAtHand (of153 _) 0 5 rfl (sg16p rfl) rfl
theorem dX5_tellAtHand_12 : decode cX5_tellAtHand 12 = .ok (.iconst 4, 1) := dec_0 oX5_tellAtHand (of7 _) rfl
theorem dX5_tellAtHand_13 : decode cX5_tellAtHand 13 = .ok (.ireturn, 1) := dec_0 oX5_tellAtHand (of172 _) rfl
theorem dX5_tellAtHand_14 : decode cX5_tellAtHand 14 = .ok (.aload_n 0, 1) := dec_0 oX5_tellAtHand (of42 _) rfl
theorem dX5_tellAtHand_15 : decode cX5_tellAtHand 15 = .ok (.getfield 42, 3) := dec_2 oX5_tellAtHand (of180 _) 0 42 rfl rfl
theorem dX5_tellAtHand_18 : decode cX5_tellAtHand 18 = .ok (.ldc 155, 2) := dec_1 oX5_tellAtHand (of18 _) 155 rfl rfl
theorem dX5_tellAtHand_20 : decode cX5_tellAtHand 20 = .ok (.invokevirtual 108, 3) := dec_2 oX5_tellAtHand (of182 _) 0 108 rfl rfl
theorem dX5_tellAtHand_23 : decode cX5_tellAtHand 23 = .ok (.ifCond .eq 5, 3) := dec_s2 oX5_tellAtHand (of153 _) 0 5 rfl (sg16p rfl) rfl
theorem dX5_tellAtHand_26 : decode cX5_tellAtHand 26 = .ok (.iconst 5, 1) := dec_0 oX5_tellAtHand (of8 _) rfl
theorem dX5_tellAtHand_27 : decode cX5_tellAtHand 27 = .ok (.ireturn, 1) := dec_0 oX5_tellAtHand (of172 _) rfl
theorem dX5_tellAtHand_28 : decode cX5_tellAtHand 28 = .ok (.aload_n 0, 1) := dec_0 oX5_tellAtHand (of42 _) rfl
theorem dX5_tellAtHand_29 : decode cX5_tellAtHand 29 = .ok (.getfield 42, 3) := dec_2 oX5_tellAtHand (of180 _) 0 42 rfl rfl
theorem dX5_tellAtHand_32 : decode cX5_tellAtHand 32 = .ok (.ldc 157, 2) := dec_1 oX5_tellAtHand (of18 _) 157 rfl rfl
theorem dX5_tellAtHand_34 : decode cX5_tellAtHand 34 = .ok (.invokevirtual 108, 3) := dec_2 oX5_tellAtHand (of182 _) 0 108 rfl rfl
theorem dX5_tellAtHand_37 : decode cX5_tellAtHand 37 = .ok (.ifCond .eq 5, 3) := dec_s2 oX5_tellAtHand (of153 _) 0 5 rfl (sg16p rfl) rfl
theorem dX5_tellAtHand_40 : decode cX5_tellAtHand 40 = .ok (.iconst 0, 1) := dec_0 oX5_tellAtHand (of3 _) rfl
theorem dX5_tellAtHand_41 : decode cX5_tellAtHand 41 = .ok (.ireturn, 1) := dec_0 oX5_tellAtHand (of172 _) rfl
theorem dX5_tellAtHand_42 : decode cX5_tellAtHand 42 = .ok (.aload_n 0, 1) := dec_0 oX5_tellAtHand (of42 _) rfl
theorem dX5_tellAtHand_43 : decode cX5_tellAtHand 43 = .ok (.getfield 42, 3) := dec_2 oX5_tellAtHand (of180 _) 0 42 rfl rfl
theorem dX5_tellAtHand_46 : decode cX5_tellAtHand 46 = .ok (.ldc 159, 2) := dec_1 oX5_tellAtHand (of18 _) 159 rfl rfl
theorem dX5_tellAtHand_48 : decode cX5_tellAtHand 48 = .ok (.invokevirtual 108, 3) := dec_2 oX5_tellAtHand (of182 _) 0 108 rfl rfl
theorem dX5_tellAtHand_51 : decode cX5_tellAtHand 51 = .ok (.ifCond .eq 5, 3) := dec_s2 oX5_tellAtHand (of153 _) 0 5 rfl (sg16p rfl) rfl
theorem dX5_tellAtHand_54 : decode cX5_tellAtHand 54 = .ok (.iconst 1, 1) := dec_0 oX5_tellAtHand (of4 _) rfl
theorem dX5_tellAtHand_55 : decode cX5_tellAtHand 55 = .ok (.ireturn, 1) := dec_0 oX5_tellAtHand (of172 _) rfl
theorem dX5_tellAtHand_56 : decode cX5_tellAtHand 56 = .ok (.aload_n 0, 1) := dec_0 oX5_tellAtHand (of42 _) rfl
theorem dX5_tellAtHand_57 : decode cX5_tellAtHand 57 = .ok (.getfield 42, 3) := dec_2 oX5_tellAtHand (of180 _) 0 42 rfl rfl
theorem dX5_tellAtHand_60 : decode cX5_tellAtHand 60 = .ok (.ldc 161, 2) := dec_1 oX5_tellAtHand (of18 _) 161 rfl rfl
theorem dX5_tellAtHand_62 : decode cX5_tellAtHand 62 = .ok (.invokevirtual 108, 3) := dec_2 oX5_tellAtHand (of182 _) 0 108 rfl rfl
theorem dX5_tellAtHand_65 : decode cX5_tellAtHand 65 = .ok (.ifCond .eq 5, 3) := dec_s2 oX5_tellAtHand (of153 _) 0 5 rfl (sg16p rfl) rfl
theorem dX5_tellAtHand_68 : decode cX5_tellAtHand 68 = .ok (.iconst 2, 1) := dec_0 oX5_tellAtHand (of5 _) rfl
theorem dX5_tellAtHand_69 : decode cX5_tellAtHand 69 = .ok (.ireturn, 1) := dec_0 oX5_tellAtHand (of172 _) rfl
theorem dX5_tellAtHand_70 : decode cX5_tellAtHand 70 = .ok (.aload_n 0, 1) := dec_0 oX5_tellAtHand (of42 _) rfl
theorem dX5_tellAtHand_71 : decode cX5_tellAtHand 71 = .ok (.getfield 42, 3) := dec_2 oX5_tellAtHand (of180 _) 0 42 rfl rfl
theorem dX5_tellAtHand_74 : decode cX5_tellAtHand 74 = .ok (.ldc 163, 2) := dec_1 oX5_tellAtHand (of18 _) 163 rfl rfl
theorem dX5_tellAtHand_76 : decode cX5_tellAtHand 76 = .ok (.invokevirtual 108, 3) := dec_2 oX5_tellAtHand (of182 _) 0 108 rfl rfl
theorem dX5_tellAtHand_79 : decode cX5_tellAtHand 79 = .ok (.ifCond .eq 7, 3) := dec_s2 oX5_tellAtHand (of153 _) 0 7 rfl (sg16p rfl) rfl
theorem dX5_tellAtHand_82 : decode cX5_tellAtHand 82 = .ok (.iconst 3, 1) := dec_0 oX5_tellAtHand (of6 _) rfl
theorem dX5_tellAtHand_83 : decode cX5_tellAtHand 83 = .ok (.goto 4, 3) := dec_s2 oX5_tellAtHand (of167 _) 0 4 rfl (sg16p rfl) rfl
theorem dX5_tellAtHand_86 : decode cX5_tellAtHand 86 = .ok (.iconst (-1), 1) := dec_0 oX5_tellAtHand (of2 _) rfl
theorem dX5_tellAtHand_87 : decode cX5_tellAtHand 87 = .ok (.ireturn, 1) := dec_0 oX5_tellAtHand (of172 _) rfl
theorem dX5_choiceAtHand_0 : decode cX5_choiceAtHand 0 = .ok (.aload_n 0, 1) := dec_0 oX5_choiceAtHand (of42 _) rfl
theorem dX5_choiceAtHand_1 : decode cX5_choiceAtHand 1 = .ok (.getfield 141, 3) := dec_2 oX5_choiceAtHand (of180 _) 0 141 rfl rfl
theorem dX5_choiceAtHand_4 : decode cX5_choiceAtHand 4 = .ok (.iconst 1, 1) := dec_0 oX5_choiceAtHand (of4 _) rfl
theorem dX5_choiceAtHand_5 : decode cX5_choiceAtHand 5 = .ok (.if_icmp .ne 10, 3) := dec_s2 oX5_choiceAtHand (of160 _) 0 10 rfl (sg16p rfl) rfl
theorem dX5_choiceAtHand_8 : decode cX5_choiceAtHand 8 = .ok (.aload_n 0, 1) := dec_0 oX5_choiceAtHand (of42 _) rfl
theorem dX5_choiceAtHand_9 : decode cX5_choiceAtHand 9 = .ok (.invokevirtual 118, 3) := dec_2 oX5_choiceAtHand (of182 _) 0 118 rfl rfl
theorem dX5_choiceAtHand_12 : decode cX5_choiceAtHand 12 = .ok (.goto 7, 3) := dec_s2 oX5_choiceAtHand (of167 _) 0 7 rfl (sg16p rfl) rfl
theorem dX5_choiceAtHand_15 : decode cX5_choiceAtHand 15 = .ok (.aload_n 0, 1) := dec_0 oX5_choiceAtHand (of42 _) rfl
theorem dX5_choiceAtHand_16 : decode cX5_choiceAtHand 16 = .ok (.invokevirtual 121, 3) := dec_2 oX5_choiceAtHand (of182 _) 0 121 rfl rfl
theorem dX5_choiceAtHand_19 : decode cX5_choiceAtHand 19 = .ok (.ireturn, 1) := dec_0 oX5_choiceAtHand (of172 _) rfl
theorem dX5_levelAtHand_0 : decode cX5_levelAtHand 0 = .ok (.aload_n 0, 1) := dec_0 oX5_levelAtHand (of42 _) rfl
theorem dX5_levelAtHand_1 : decode cX5_levelAtHand 1 = .ok (.getfield 42, 3) := dec_2 oX5_levelAtHand (of180 _) 0 42 rfl rfl
theorem dX5_levelAtHand_4 : decode cX5_levelAtHand 4 = .ok (.ldc 165, 2) := dec_1 oX5_levelAtHand (of18 _) 165 rfl rfl
theorem dX5_levelAtHand_6 : decode cX5_levelAtHand 6 = .ok (.invokevirtual 108, 3) := dec_2 oX5_levelAtHand (of182 _) 0 108 rfl rfl
theorem dX5_levelAtHand_9 : decode cX5_levelAtHand 9 = .ok (.ifCond .eq 5, 3) := dec_s2 oX5_levelAtHand (of153 _) 0 5 rfl (sg16p rfl) rfl
theorem dX5_levelAtHand_12 : decode cX5_levelAtHand 12 = .ok (.iconst 0, 1) := dec_0 oX5_levelAtHand (of3 _) rfl
theorem dX5_levelAtHand_13 : decode cX5_levelAtHand 13 = .ok (.ireturn, 1) := dec_0 oX5_levelAtHand (of172 _) rfl
theorem dX5_levelAtHand_14 : decode cX5_levelAtHand 14 = .ok (.aload_n 0, 1) := dec_0 oX5_levelAtHand (of42 _) rfl
theorem dX5_levelAtHand_15 : decode cX5_levelAtHand 15 = .ok (.getfield 42, 3) := dec_2 oX5_levelAtHand (of180 _) 0 42 rfl rfl
theorem dX5_levelAtHand_18 : decode cX5_levelAtHand 18 = .ok (.ldc 167, 2) := dec_1 oX5_levelAtHand (of18 _) 167 rfl rfl
theorem dX5_levelAtHand_20 : decode cX5_levelAtHand 20 = .ok (.invokevirtual 108, 3) := dec_2 oX5_levelAtHand (of182 _) 0 108 rfl rfl
theorem dX5_levelAtHand_23 : decode cX5_levelAtHand 23 = .ok (.ifCond .eq 5, 3) := dec_s2 oX5_levelAtHand (of153 _) 0 5 rfl (sg16p rfl) rfl
theorem dX5_levelAtHand_26 : decode cX5_levelAtHand 26 = .ok (.iconst 1, 1) := dec_0 oX5_levelAtHand (of4 _) rfl
theorem dX5_levelAtHand_27 : decode cX5_levelAtHand 27 = .ok (.ireturn, 1) := dec_0 oX5_levelAtHand (of172 _) rfl
theorem dX5_levelAtHand_28 : decode cX5_levelAtHand 28 = .ok (.aload_n 0, 1) := dec_0 oX5_levelAtHand (of42 _) rfl
theorem dX5_levelAtHand_29 : decode cX5_levelAtHand 29 = .ok (.getfield 42, 3) := dec_2 oX5_levelAtHand (of180 _) 0 42 rfl rfl
theorem dX5_levelAtHand_32 : decode cX5_levelAtHand 32 = .ok (.ldc 169, 2) := dec_1 oX5_levelAtHand (of18 _) 169 rfl rfl
theorem dX5_levelAtHand_34 : decode cX5_levelAtHand 34 = .ok (.invokevirtual 108, 3) := dec_2 oX5_levelAtHand (of182 _) 0 108 rfl rfl
theorem dX5_levelAtHand_37 : decode cX5_levelAtHand 37 = .ok (.ifCond .eq 5, 3) := dec_s2 oX5_levelAtHand (of153 _) 0 5 rfl (sg16p rfl) rfl
theorem dX5_levelAtHand_40 : decode cX5_levelAtHand 40 = .ok (.iconst 2, 1) := dec_0 oX5_levelAtHand (of5 _) rfl
theorem dX5_levelAtHand_41 : decode cX5_levelAtHand 41 = .ok (.ireturn, 1) := dec_0 oX5_levelAtHand (of172 _) rfl
theorem dX5_levelAtHand_42 : decode cX5_levelAtHand 42 = .ok (.aload_n 0, 1) := dec_0 oX5_levelAtHand (of42 _) rfl
theorem dX5_levelAtHand_43 : decode cX5_levelAtHand 43 = .ok (.getfield 42, 3) := dec_2 oX5_levelAtHand (of180 _) 0 42 rfl rfl
theorem dX5_levelAtHand_46 : decode cX5_levelAtHand 46 = .ok (.ldc 171, 2) := dec_1 oX5_levelAtHand (of18 _) 171 rfl rfl
theorem dX5_levelAtHand_48 : decode cX5_levelAtHand 48 = .ok (.invokevirtual 108, 3) := dec_2 oX5_levelAtHand (of182 _) 0 108 rfl rfl
theorem dX5_levelAtHand_51 : decode cX5_levelAtHand 51 = .ok (.ifCond .eq 7, 3) := dec_s2 oX5_levelAtHand (of153 _) 0 7 rfl (sg16p rfl) rfl
theorem dX5_levelAtHand_54 : decode cX5_levelAtHand 54 = .ok (.iconst 3, 1) := dec_0 oX5_levelAtHand (of6 _) rfl
theorem dX5_levelAtHand_55 : decode cX5_levelAtHand 55 = .ok (.goto 4, 3) := dec_s2 oX5_levelAtHand (of167 _) 0 4 rfl (sg16p rfl) rfl
theorem dX5_levelAtHand_58 : decode cX5_levelAtHand 58 = .ok (.iconst (-1), 1) := dec_0 oX5_levelAtHand (of2 _) rfl
theorem dX5_levelAtHand_59 : decode cX5_levelAtHand 59 = .ok (.ireturn, 1) := dec_0 oX5_levelAtHand (of172 _) rfl
theorem dX5_costAtHand_0 : decode cX5_costAtHand 0 = .ok (.aload_n 0, 1) := dec_0 oX5_costAtHand (of42 _) rfl
theorem dX5_costAtHand_1 : decode cX5_costAtHand 1 = .ok (.getfield 42, 3) := dec_2 oX5_costAtHand (of180 _) 0 42 rfl rfl
theorem dX5_costAtHand_4 : decode cX5_costAtHand 4 = .ok (.ldc 173, 2) := dec_1 oX5_costAtHand (of18 _) 173 rfl rfl
theorem dX5_costAtHand_6 : decode cX5_costAtHand 6 = .ok (.invokevirtual 108, 3) := dec_2 oX5_costAtHand (of182 _) 0 108 rfl rfl
theorem dX5_costAtHand_9 : decode cX5_costAtHand 9 = .ok (.ifCond .eq 5, 3) := dec_s2 oX5_costAtHand (of153 _) 0 5 rfl (sg16p rfl) rfl
theorem dX5_costAtHand_12 : decode cX5_costAtHand 12 = .ok (.iconst 0, 1) := dec_0 oX5_costAtHand (of3 _) rfl
theorem dX5_costAtHand_13 : decode cX5_costAtHand 13 = .ok (.ireturn, 1) := dec_0 oX5_costAtHand (of172 _) rfl
theorem dX5_costAtHand_14 : decode cX5_costAtHand 14 = .ok (.aload_n 0, 1) := dec_0 oX5_costAtHand (of42 _) rfl
theorem dX5_costAtHand_15 : decode cX5_costAtHand 15 = .ok (.getfield 42, 3) := dec_2 oX5_costAtHand (of180 _) 0 42 rfl rfl
theorem dX5_costAtHand_18 : decode cX5_costAtHand 18 = .ok (.ldc 175, 2) := dec_1 oX5_costAtHand (of18 _) 175 rfl rfl
theorem dX5_costAtHand_20 : decode cX5_costAtHand 20 = .ok (.invokevirtual 108, 3) := dec_2 oX5_costAtHand (of182 _) 0 108 rfl rfl
theorem dX5_costAtHand_23 : decode cX5_costAtHand 23 = .ok (.ifCond .eq 7, 3) := dec_s2 oX5_costAtHand (of153 _) 0 7 rfl (sg16p rfl) rfl
theorem dX5_costAtHand_26 : decode cX5_costAtHand 26 = .ok (.iconst 1, 1) := dec_0 oX5_costAtHand (of4 _) rfl
theorem dX5_costAtHand_27 : decode cX5_costAtHand 27 = .ok (.goto 4, 3) := dec_s2 oX5_costAtHand (of167 _) 0 4 rfl (sg16p rfl) rfl
theorem dX5_costAtHand_30 : decode cX5_costAtHand 30 = .ok (.iconst (-1), 1) := dec_0 oX5_costAtHand (of2 _) rfl
theorem dX5_costAtHand_31 : decode cX5_costAtHand 31 = .ok (.ireturn, 1) := dec_0 oX5_costAtHand (of172 _) rfl
theorem dX5_beginTell_0 : decode cX5_beginTell 0 = .ok (.aload_n 0, 1) := dec_0 oX5_beginTell (of42 _) rfl
theorem dX5_beginTell_1 : decode cX5_beginTell 1 = .ok (.aload_n 0, 1) := dec_0 oX5_beginTell (of42 _) rfl
theorem dX5_beginTell_2 : decode cX5_beginTell 2 = .ok (.invokevirtual 99, 3) := dec_2 oX5_beginTell (of182 _) 0 99 rfl rfl
theorem dX5_beginTell_5 : decode cX5_beginTell 5 = .ok (.putfield 141, 3) := dec_2 oX5_beginTell (of181 _) 0 141 rfl rfl
theorem dX5_beginTell_8 : decode cX5_beginTell 8 = .ok (.aload_n 0, 1) := dec_0 oX5_beginTell (of42 _) rfl
theorem dX5_beginTell_9 : decode cX5_beginTell 9 = .ok (.getfield 141, 3) := dec_2 oX5_beginTell (of180 _) 0 141 rfl rfl
theorem dX5_beginTell_12 : decode cX5_beginTell 12 = .ok (.tableswitch 74 0 5 #[66, 74, 74, 66, 40, 53], 40) := by decide +kernel
theorem dX5_beginTell_52 : decode cX5_beginTell 52 = .ok (.aload_n 0, 1) := dec_0 oX5_beginTell (of42 _) rfl
theorem dX5_beginTell_53 : decode cX5_beginTell 53 = .ok (.iconst 1, 1) := dec_0 oX5_beginTell (of4 _) rfl
theorem dX5_beginTell_54 : decode cX5_beginTell 54 = .ok (.putfield 75, 3) := dec_2 oX5_beginTell (of181 _) 0 75 rfl rfl
theorem dX5_beginTell_57 : decode cX5_beginTell 57 = .ok (.aload_n 0, 1) := dec_0 oX5_beginTell (of42 _) rfl
theorem dX5_beginTell_58 : decode cX5_beginTell 58 = .ok (.iconst 0, 1) := dec_0 oX5_beginTell (of3 _) rfl
theorem dX5_beginTell_59 : decode cX5_beginTell 59 = .ok (.putfield 32, 3) := dec_2 oX5_beginTell (of181 _) 0 32 rfl rfl
theorem dX5_beginTell_62 : decode cX5_beginTell 62 = .ok (.goto 29, 3) := dec_s2 oX5_beginTell (of167 _) 0 29 rfl (sg16p rfl) rfl
theorem dX5_beginTell_65 : decode cX5_beginTell 65 = .ok (.aload_n 0, 1) := dec_0 oX5_beginTell (of42 _) rfl
theorem dX5_beginTell_66 : decode cX5_beginTell 66 = .ok (.iconst 2, 1) := dec_0 oX5_beginTell (of5 _) rfl
theorem dX5_beginTell_67 : decode cX5_beginTell 67 = .ok (.putfield 75, 3) := dec_2 oX5_beginTell (of181 _) 0 75 rfl rfl
theorem dX5_beginTell_70 : decode cX5_beginTell 70 = .ok (.aload_n 0, 1) := dec_0 oX5_beginTell (of42 _) rfl
theorem dX5_beginTell_71 : decode cX5_beginTell 71 = .ok (.iconst 0, 1) := dec_0 oX5_beginTell (of3 _) rfl
theorem dX5_beginTell_72 : decode cX5_beginTell 72 = .ok (.putfield 32, 3) := dec_2 oX5_beginTell (of181 _) 0 32 rfl rfl
theorem dX5_beginTell_75 : decode cX5_beginTell 75 = .ok (.goto 16, 3) := dec_s2 oX5_beginTell (of167 _) 0 16 rfl (sg16p rfl) rfl
theorem dX5_beginTell_78 : decode cX5_beginTell 78 = .ok (.aload_n 0, 1) := dec_0 oX5_beginTell (of42 _) rfl
theorem dX5_beginTell_79 : decode cX5_beginTell 79 = .ok (.iconst 4, 1) := dec_0 oX5_beginTell (of7 _) rfl
theorem dX5_beginTell_80 : decode cX5_beginTell 80 = .ok (.putfield 75, 3) := dec_2 oX5_beginTell (of181 _) 0 75 rfl rfl
theorem dX5_beginTell_83 : decode cX5_beginTell 83 = .ok (.goto 8, 3) := dec_s2 oX5_beginTell (of167 _) 0 8 rfl (sg16p rfl) rfl
theorem dX5_beginTell_86 : decode cX5_beginTell 86 = .ok (.aload_n 0, 1) := dec_0 oX5_beginTell (of42 _) rfl
theorem dX5_beginTell_87 : decode cX5_beginTell 87 = .ok (.iconst 5, 1) := dec_0 oX5_beginTell (of8 _) rfl
theorem dX5_beginTell_88 : decode cX5_beginTell 88 = .ok (.putfield 75, 3) := dec_2 oX5_beginTell (of181 _) 0 75 rfl rfl
theorem dX5_beginTell_91 : decode cX5_beginTell 91 = .ok (.return_, 1) := dec_0 oX5_beginTell (of177 _) rfl
theorem dX5_acceptName_0 : decode cX5_acceptName 0 = .ok (.aload_n 0, 1) := dec_0 oX5_acceptName (of42 _) rfl
theorem dX5_acceptName_1 : decode cX5_acceptName 1 = .ok (.getfield 21, 3) := dec_2 oX5_acceptName (of180 _) 0 21 rfl rfl
theorem dX5_acceptName_4 : decode cX5_acceptName 4 = .ok (.getfield 84, 3) := dec_2 oX5_acceptName (of180 _) 0 84 rfl rfl
theorem dX5_acceptName_7 : decode cX5_acceptName 7 = .ok (.istore_n 1, 1) := dec_0 oX5_acceptName (of60 _) rfl
theorem dX5_acceptName_8 : decode cX5_acceptName 8 = .ok (.iconst 0, 1) := dec_0 oX5_acceptName (of3 _) rfl
theorem dX5_acceptName_9 : decode cX5_acceptName 9 = .ok (.istore_n 2, 1) := dec_0 oX5_acceptName (of61 _) rfl
theorem dX5_acceptName_10 : decode cX5_acceptName 10 = .ok (.iload_n 2, 1) := dec_0 oX5_acceptName (of28 _) rfl
theorem dX5_acceptName_11 : decode cX5_acceptName 11 = .ok (.iload_n 1, 1) := dec_0 oX5_acceptName (of27 _) rfl
theorem dX5_acceptName_12 : decode cX5_acceptName 12 = .ok (.if_icmp .ge 41, 3) := dec_s2 oX5_acceptName (of162 _) 0 41 rfl (sg16p rfl) rfl
theorem dX5_acceptName_15 : decode cX5_acceptName 15 = .ok (.iload_n 2, 1) := dec_0 oX5_acceptName (of28 _) rfl
theorem dX5_acceptName_16 : decode cX5_acceptName 16 = .ok (.iconst 5, 1) := dec_0 oX5_acceptName (of8 _) rfl
theorem dX5_acceptName_17 : decode cX5_acceptName 17 = .ok (.if_icmp .ge 36, 3) := dec_s2 oX5_acceptName (of162 _) 0 36 rfl (sg16p rfl) rfl
theorem dX5_acceptName_20 : decode cX5_acceptName 20 = .ok (.aload_n 0, 1) := dec_0 oX5_acceptName (of42 _) rfl
theorem dX5_acceptName_21 : decode cX5_acceptName 21 = .ok (.getfield 42, 3) := dec_2 oX5_acceptName (of180 _) 0 42 rfl rfl
theorem dX5_acceptName_24 : decode cX5_acceptName 24 = .ok (.aload_n 0, 1) := dec_0 oX5_acceptName (of42 _) rfl
theorem dX5_acceptName_25 : decode cX5_acceptName 25 = .ok (.getfield 25, 3) := dec_2 oX5_acceptName (of180 _) 0 25 rfl rfl
theorem dX5_acceptName_28 : decode cX5_acceptName 28 = .ok (.iload_n 2, 1) := dec_0 oX5_acceptName (of28 _) rfl
theorem dX5_acceptName_29 : decode cX5_acceptName 29 = .ok (.iaload, 1) := dec_0 oX5_acceptName (of46 _) rfl
theorem dX5_acceptName_30 : decode cX5_acceptName 30 = .ok (.aload_n 0, 1) := dec_0 oX5_acceptName (of42 _) rfl
theorem dX5_acceptName_31 : decode cX5_acceptName 31 = .ok (.getfield 29, 3) := dec_2 oX5_acceptName (of180 _) 0 29 rfl rfl
theorem dX5_acceptName_34 : decode cX5_acceptName 34 = .ok (.iload_n 2, 1) := dec_0 oX5_acceptName (of28 _) rfl
theorem dX5_acceptName_35 : decode cX5_acceptName 35 = .ok (.iaload, 1) := dec_0 oX5_acceptName (of46 _) rfl
theorem dX5_acceptName_36 : decode cX5_acceptName 36 = .ok (.invokevirtual 177, 3) := dec_2 oX5_acceptName (of182 _) 0 177 rfl rfl
theorem dX5_acceptName_39 : decode cX5_acceptName 39 = .ok (.ifCond .eq 8, 3) := dec_s2 oX5_acceptName (of153 _) 0 8 rfl (sg16p rfl) rfl
theorem dX5_acceptName_42 : decode cX5_acceptName 42 = .ok (.aload_n 0, 1) := dec_0 oX5_acceptName (of42 _) rfl
theorem dX5_acceptName_43 : decode cX5_acceptName 43 = .ok (.iconst 3, 1) := dec_0 oX5_acceptName (of6 _) rfl
theorem dX5_acceptName_44 : decode cX5_acceptName 44 = .ok (.invokevirtual 181, 3) := dec_2 oX5_acceptName (of182 _) 0 181 rfl rfl
theorem dX5_acceptName_47 : decode cX5_acceptName 47 = .ok (.iinc 2 1, 3) := dec_ii oX5_acceptName (of132 _) 2 1 rfl (sg8p rfl) rfl
theorem dX5_acceptName_50 : decode cX5_acceptName 50 = .ok (.goto (-40), 3) := dec_s2 oX5_acceptName (of167 _) 255 216 rfl (sg16n (k := 40) rfl) rfl
theorem dX5_acceptName_53 : decode cX5_acceptName 53 = .ok (.iload_n 1, 1) := dec_0 oX5_acceptName (of27 _) rfl
theorem dX5_acceptName_54 : decode cX5_acceptName 54 = .ok (.ifCond .lt 41, 3) := dec_s2 oX5_acceptName (of155 _) 0 41 rfl (sg16p rfl) rfl
theorem dX5_acceptName_57 : decode cX5_acceptName 57 = .ok (.iload_n 1, 1) := dec_0 oX5_acceptName (of27 _) rfl
theorem dX5_acceptName_58 : decode cX5_acceptName 58 = .ok (.iconst 5, 1) := dec_0 oX5_acceptName (of8 _) rfl
theorem dX5_acceptName_59 : decode cX5_acceptName 59 = .ok (.if_icmp .ge 36, 3) := dec_s2 oX5_acceptName (of162 _) 0 36 rfl (sg16p rfl) rfl
theorem dX5_acceptName_62 : decode cX5_acceptName 62 = .ok (.aload_n 0, 1) := dec_0 oX5_acceptName (of42 _) rfl
theorem dX5_acceptName_63 : decode cX5_acceptName 63 = .ok (.getfield 25, 3) := dec_2 oX5_acceptName (of180 _) 0 25 rfl rfl
theorem dX5_acceptName_66 : decode cX5_acceptName 66 = .ok (.iload_n 1, 1) := dec_0 oX5_acceptName (of27 _) rfl
theorem dX5_acceptName_67 : decode cX5_acceptName 67 = .ok (.aload_n 0, 1) := dec_0 oX5_acceptName (of42 _) rfl
theorem dX5_acceptName_68 : decode cX5_acceptName 68 = .ok (.getfield 42, 3) := dec_2 oX5_acceptName (of180 _) 0 42 rfl rfl
theorem dX5_acceptName_71 : decode cX5_acceptName 71 = .ok (.getfield 96, 3) := dec_2 oX5_acceptName (of180 _) 0 96 rfl rfl
theorem dX5_acceptName_74 : decode cX5_acceptName 74 = .ok (.iastore, 1) := dec_0 oX5_acceptName (of79 _) rfl
theorem dX5_acceptName_75 : decode cX5_acceptName 75 = .ok (.aload_n 0, 1) := dec_0 oX5_acceptName (of42 _) rfl
theorem dX5_acceptName_76 : decode cX5_acceptName 76 = .ok (.getfield 29, 3) := dec_2 oX5_acceptName (of180 _) 0 29 rfl rfl
theorem dX5_acceptName_79 : decode cX5_acceptName 79 = .ok (.iload_n 1, 1) := dec_0 oX5_acceptName (of27 _) rfl
theorem dX5_acceptName_80 : decode cX5_acceptName 80 = .ok (.aload_n 0, 1) := dec_0 oX5_acceptName (of42 _) rfl
theorem dX5_acceptName_81 : decode cX5_acceptName 81 = .ok (.getfield 42, 3) := dec_2 oX5_acceptName (of180 _) 0 42 rfl rfl
theorem dX5_acceptName_84 : decode cX5_acceptName 84 = .ok (.invokevirtual 184, 3) := dec_2 oX5_acceptName (of182 _) 0 184 rfl rfl
theorem dX5_acceptName_87 : decode cX5_acceptName 87 = .ok (.iastore, 1) := dec_0 oX5_acceptName (of79 _) rfl
theorem dX5_acceptName_88 : decode cX5_acceptName 88 = .ok (.aload_n 0, 1) := dec_0 oX5_acceptName (of42 _) rfl
theorem dX5_acceptName_89 : decode cX5_acceptName 89 = .ok (.getfield 21, 3) := dec_2 oX5_acceptName (of180 _) 0 21 rfl rfl
theorem dX5_acceptName_92 : decode cX5_acceptName 92 = .ok (.invokevirtual 187, 3) := dec_2 oX5_acceptName (of182 _) 0 187 rfl rfl
theorem dX5_acceptName_95 : decode cX5_acceptName 95 = .ok (.aload_n 0, 1) := dec_0 oX5_acceptName (of42 _) rfl
theorem dX5_acceptName_96 : decode cX5_acceptName 96 = .ok (.iconst 3, 1) := dec_0 oX5_acceptName (of6 _) rfl
theorem dX5_acceptName_97 : decode cX5_acceptName 97 = .ok (.putfield 75, 3) := dec_2 oX5_acceptName (of181 _) 0 75 rfl rfl
theorem dX5_acceptName_100 : decode cX5_acceptName 100 = .ok (.return_, 1) := dec_0 oX5_acceptName (of177 _) rfl
theorem dX5_acceptNumber_0 : decode cX5_acceptNumber 0 = .ok (.aload_n 0, 1) := dec_0 oX5_acceptNumber (of42 _) rfl
theorem dX5_acceptNumber_1 : decode cX5_acceptNumber 1 = .ok (.getfield 141, 3) := dec_2 oX5_acceptNumber (of180 _) 0 141 rfl rfl
theorem dX5_acceptNumber_4 : decode cX5_acceptNumber 4 = .ok (.aload_n 0, 1) := dec_0 oX5_acceptNumber (of42 _) rfl
theorem dX5_acceptNumber_5 : decode cX5_acceptNumber 5 = .ok (.getfield 42, 3) := dec_2 oX5_acceptNumber (of180 _) 0 42 rfl rfl
theorem dX5_acceptNumber_8 : decode cX5_acceptNumber 8 = .ok (.getfield 190, 3) := dec_2 oX5_acceptNumber (of180 _) 0 190 rfl rfl
theorem dX5_acceptNumber_11 : decode cX5_acceptNumber 11 = .ok (.invokestatic 193, 3) := dec_2 oX5_acceptNumber (of184 _) 0 193 rfl rfl
theorem dX5_acceptNumber_14 : decode cX5_acceptNumber 14 = .ok (.ifCond .ne 8, 3) := dec_s2 oX5_acceptNumber (of154 _) 0 8 rfl (sg16p rfl) rfl
theorem dX5_acceptNumber_17 : decode cX5_acceptNumber 17 = .ok (.aload_n 0, 1) := dec_0 oX5_acceptNumber (of42 _) rfl
theorem dX5_acceptNumber_18 : decode cX5_acceptNumber 18 = .ok (.iconst 5, 1) := dec_0 oX5_acceptNumber (of8 _) rfl
theorem dX5_acceptNumber_19 : decode cX5_acceptNumber 19 = .ok (.invokevirtual 181, 3) := dec_2 oX5_acceptNumber (of182 _) 0 181 rfl rfl
theorem dX5_acceptNumber_22 : decode cX5_acceptNumber 22 = .ok (.aload_n 0, 1) := dec_0 oX5_acceptNumber (of42 _) rfl
theorem dX5_acceptNumber_23 : decode cX5_acceptNumber 23 = .ok (.getfield 12, 3) := dec_2 oX5_acceptNumber (of180 _) 0 12 rfl rfl
theorem dX5_acceptNumber_26 : decode cX5_acceptNumber 26 = .ok (.getfield 137, 3) := dec_2 oX5_acceptNumber (of180 _) 0 137 rfl rfl
theorem dX5_acceptNumber_29 : decode cX5_acceptNumber 29 = .ok (.aload_n 0, 1) := dec_0 oX5_acceptNumber (of42 _) rfl
theorem dX5_acceptNumber_30 : decode cX5_acceptNumber 30 = .ok (.getfield 141, 3) := dec_2 oX5_acceptNumber (of180 _) 0 141 rfl rfl
theorem dX5_acceptNumber_33 : decode cX5_acceptNumber 33 = .ok (.aload_n 0, 1) := dec_0 oX5_acceptNumber (of42 _) rfl
theorem dX5_acceptNumber_34 : decode cX5_acceptNumber 34 = .ok (.getfield 42, 3) := dec_2 oX5_acceptNumber (of180 _) 0 42 rfl rfl
theorem dX5_acceptNumber_37 : decode cX5_acceptNumber 37 = .ok (.getfield 190, 3) := dec_2 oX5_acceptNumber (of180 _) 0 190 rfl rfl
theorem dX5_acceptNumber_40 : decode cX5_acceptNumber 40 = .ok (.invokevirtual 144, 3) := dec_2 oX5_acceptNumber (of182 _) 0 144 rfl rfl
theorem dX5_acceptNumber_43 : decode cX5_acceptNumber 43 = .ok (.aload_n 0, 1) := dec_0 oX5_acceptNumber (of42 _) rfl
theorem dX5_acceptNumber_44 : decode cX5_acceptNumber 44 = .ok (.bipush 6, 2) := dec_s1 oX5_acceptNumber (of16 _) 6 rfl (sg8p rfl) rfl
theorem dX5_acceptNumber_46 : decode cX5_acceptNumber 46 = .ok (.putfield 75, 3) := dec_2 oX5_acceptNumber (of181 _) 0 75 rfl rfl
theorem dX5_acceptNumber_49 : decode cX5_acceptNumber 49 = .ok (.return_, 1) := dec_0 oX5_acceptNumber (of177 _) rfl
theorem dX5_acceptInRow_0 : decode cX5_acceptInRow 0 = .ok (.aload_n 0, 1) := dec_0 oX5_acceptInRow (of42 _) rfl
theorem dX5_acceptInRow_1 : decode cX5_acceptInRow 1 = .ok (.getfield 42, 3) := dec_2 oX5_acceptInRow (of180 _) 0 42 rfl rfl
theorem dX5_acceptInRow_4 : decode cX5_acceptInRow 4 = .ok (.getfield 53, 3) := dec_2 oX5_acceptInRow (of180 _) 0 53 rfl rfl
theorem dX5_acceptInRow_7 : decode cX5_acceptInRow 7 = .ok (.iconst 3, 1) := dec_0 oX5_acceptInRow (of6 _) rfl
theorem dX5_acceptInRow_8 : decode cX5_acceptInRow 8 = .ok (.if_icmp .ne 39, 3) := dec_s2 oX5_acceptInRow (of160 _) 0 39 rfl (sg16p rfl) rfl
theorem dX5_acceptInRow_11 : decode cX5_acceptInRow 11 = .ok (.aload_n 0, 1) := dec_0 oX5_acceptInRow (of42 _) rfl
theorem dX5_acceptInRow_12 : decode cX5_acceptInRow 12 = .ok (.getfield 75, 3) := dec_2 oX5_acceptInRow (of180 _) 0 75 rfl rfl
theorem dX5_acceptInRow_15 : decode cX5_acceptInRow 15 = .ok (.iconst 3, 1) := dec_0 oX5_acceptInRow (of6 _) rfl
theorem dX5_acceptInRow_16 : decode cX5_acceptInRow 16 = .ok (.if_icmp .ne 17, 3) := dec_s2 oX5_acceptInRow (of160 _) 0 17 rfl (sg16p rfl) rfl
theorem dX5_acceptInRow_19 : decode cX5_acceptInRow 19 = .ok (.aload_n 0, 1) := dec_0 oX5_acceptInRow (of42 _) rfl
theorem dX5_acceptInRow_20 : decode cX5_acceptInRow 20 = .ok (.getfield 32, 3) := dec_2 oX5_acceptInRow (of180 _) 0 32 rfl rfl
theorem dX5_acceptInRow_23 : decode cX5_acceptInRow 23 = .ok (.iconst 2, 1) := dec_0 oX5_acceptInRow (of5 _) rfl
theorem dX5_acceptInRow_24 : decode cX5_acceptInRow 24 = .ok (.if_icmp .ge 9, 3) := dec_s2 oX5_acceptInRow (of162 _) 0 9 rfl (sg16p rfl) rfl
theorem dX5_acceptInRow_27 : decode cX5_acceptInRow 27 = .ok (.aload_n 0, 1) := dec_0 oX5_acceptInRow (of42 _) rfl
theorem dX5_acceptInRow_28 : decode cX5_acceptInRow 28 = .ok (.bipush 6, 2) := dec_s1 oX5_acceptInRow (of16 _) 6 rfl (sg8p rfl) rfl
theorem dX5_acceptInRow_30 : decode cX5_acceptInRow 30 = .ok (.invokevirtual 181, 3) := dec_2 oX5_acceptInRow (of182 _) 0 181 rfl rfl
theorem dX5_acceptInRow_33 : decode cX5_acceptInRow 33 = .ok (.aload_n 0, 1) := dec_0 oX5_acceptInRow (of42 _) rfl
theorem dX5_acceptInRow_34 : decode cX5_acceptInRow 34 = .ok (.iconst 0, 1) := dec_0 oX5_acceptInRow (of3 _) rfl
theorem dX5_acceptInRow_35 : decode cX5_acceptInRow 35 = .ok (.putfield 75, 3) := dec_2 oX5_acceptInRow (of181 _) 0 75 rfl rfl
theorem dX5_acceptInRow_38 : decode cX5_acceptInRow 38 = .ok (.aload_n 0, 1) := dec_0 oX5_acceptInRow (of42 _) rfl
theorem dX5_acceptInRow_39 : decode cX5_acceptInRow 39 = .ok (.bipush (-2), 2) := dec_s1 oX5_acceptInRow (of16 _) 254 rfl (sg8n (k := 2) rfl) rfl
theorem dX5_acceptInRow_41 : decode cX5_acceptInRow 41 = .ok (.putfield 32, 3) := dec_2 oX5_acceptInRow (of181 _) 0 32 rfl rfl
theorem dX5_acceptInRow_44 : decode cX5_acceptInRow 44 = .ok (.goto 90, 3) := dec_s2 oX5_acceptInRow (of167 _) 0 90 rfl (sg16p rfl) rfl
theorem dX5_acceptInRow_47 : decode cX5_acceptInRow 47 = .ok (.aload_n 0, 1) := dec_0 oX5_acceptInRow (of42 _) rfl
theorem dX5_acceptInRow_48 : decode cX5_acceptInRow 48 = .ok (.getfield 42, 3) := dec_2 oX5_acceptInRow (of180 _) 0 42 rfl rfl
theorem dX5_acceptInRow_51 : decode cX5_acceptInRow 51 = .ok (.getfield 53, 3) := dec_2 oX5_acceptInRow (of180 _) 0 53 rfl rfl
theorem dX5_acceptInRow_54 : decode cX5_acceptInRow 54 = .ok (.iconst 4, 1) := dec_0 oX5_acceptInRow (of7 _) rfl
theorem dX5_acceptInRow_55 : decode cX5_acceptInRow 55 = .ok (.if_icmp .ne 11, 3) := dec_s2 oX5_acceptInRow (of160 _) 0 11 rfl (sg16p rfl) rfl
theorem dX5_acceptInRow_58 : decode cX5_acceptInRow 58 = .ok (.aload_n 0, 1) := dec_0 oX5_acceptInRow (of42 _) rfl
theorem dX5_acceptInRow_59 : decode cX5_acceptInRow 59 = .ok (.iconst 1, 1) := dec_0 oX5_acceptInRow (of4 _) rfl
theorem dX5_acceptInRow_60 : decode cX5_acceptInRow 60 = .ok (.putfield 87, 3) := dec_2 oX5_acceptInRow (of181 _) 0 87 rfl rfl
theorem dX5_acceptInRow_63 : decode cX5_acceptInRow 63 = .ok (.goto 71, 3) := dec_s2 oX5_acceptInRow (of167 _) 0 71 rfl (sg16p rfl) rfl
theorem dX5_acceptInRow_66 : decode cX5_acceptInRow 66 = .ok (.aload_n 0, 1) := dec_0 oX5_acceptInRow (of42 _) rfl
theorem dX5_acceptInRow_67 : decode cX5_acceptInRow 67 = .ok (.getfield 42, 3) := dec_2 oX5_acceptInRow (of180 _) 0 42 rfl rfl
theorem dX5_acceptInRow_70 : decode cX5_acceptInRow 70 = .ok (.getfield 53, 3) := dec_2 oX5_acceptInRow (of180 _) 0 53 rfl rfl
theorem dX5_acceptInRow_73 : decode cX5_acceptInRow 73 = .ok (.iconst 2, 1) := dec_0 oX5_acceptInRow (of5 _) rfl
theorem dX5_acceptInRow_74 : decode cX5_acceptInRow 74 = .ok (.if_icmp .ne 53, 3) := dec_s2 oX5_acceptInRow (of160 _) 0 53 rfl (sg16p rfl) rfl
theorem dX5_acceptInRow_77 : decode cX5_acceptInRow 77 = .ok (.aload_n 0, 1) := dec_0 oX5_acceptInRow (of42 _) rfl
theorem dX5_acceptInRow_78 : decode cX5_acceptInRow 78 = .ok (.getfield 42, 3) := dec_2 oX5_acceptInRow (of180 _) 0 42 rfl rfl
theorem dX5_acceptInRow_81 : decode cX5_acceptInRow 81 = .ok (.getfield 190, 3) := dec_2 oX5_acceptInRow (of180 _) 0 190 rfl rfl
theorem dX5_acceptInRow_84 : decode cX5_acceptInRow 84 = .ok (.sipush 999, 3) := dec_s2 oX5_acceptInRow (of17 _) 3 231 rfl (sg16p rfl) rfl
theorem dX5_acceptInRow_87 : decode cX5_acceptInRow 87 = .ok (.if_icmp .le 8, 3) := dec_s2 oX5_acceptInRow (of164 _) 0 8 rfl (sg16p rfl) rfl
theorem dX5_acceptInRow_90 : decode cX5_acceptInRow 90 = .ok (.aload_n 0, 1) := dec_0 oX5_acceptInRow (of42 _) rfl
theorem dX5_acceptInRow_91 : decode cX5_acceptInRow 91 = .ok (.iconst 5, 1) := dec_0 oX5_acceptInRow (of8 _) rfl
theorem dX5_acceptInRow_92 : decode cX5_acceptInRow 92 = .ok (.invokevirtual 181, 3) := dec_2 oX5_acceptInRow (of182 _) 0 181 rfl rfl
theorem dX5_acceptInRow_95 : decode cX5_acceptInRow 95 = .ok (.aload_n 0, 1) := dec_0 oX5_acceptInRow (of42 _) rfl
theorem dX5_acceptInRow_96 : decode cX5_acceptInRow 96 = .ok (.aload_n 0, 1) := dec_0 oX5_acceptInRow (of42 _) rfl
theorem dX5_acceptInRow_97 : decode cX5_acceptInRow 97 = .ok (.getfield 87, 3) := dec_2 oX5_acceptInRow (of180 _) 0 87 rfl rfl
theorem dX5_acceptInRow_100 : decode cX5_acceptInRow 100 = .ok (.ifCond .eq 14, 3) := dec_s2 oX5_acceptInRow (of153 _) 0 14 rfl (sg16p rfl) rfl
theorem dX5_acceptInRow_103 : decode cX5_acceptInRow 103 = .ok (.aload_n 0, 1) := dec_0 oX5_acceptInRow (of42 _) rfl
theorem dX5_acceptInRow_104 : decode cX5_acceptInRow 104 = .ok (.getfield 42, 3) := dec_2 oX5_acceptInRow (of180 _) 0 42 rfl rfl
theorem dX5_acceptInRow_107 : decode cX5_acceptInRow 107 = .ok (.getfield 190, 3) := dec_2 oX5_acceptInRow (of180 _) 0 190 rfl rfl
theorem dX5_acceptInRow_110 : decode cX5_acceptInRow 110 = .ok (.ineg, 1) := dec_0 oX5_acceptInRow (of116 _) rfl
theorem dX5_acceptInRow_111 : decode cX5_acceptInRow 111 = .ok (.goto 10, 3) := dec_s2 oX5_acceptInRow (of167 _) 0 10 rfl (sg16p rfl) rfl
theorem dX5_acceptInRow_114 : decode cX5_acceptInRow 114 = .ok (.aload_n 0, 1) := dec_0 oX5_acceptInRow (of42 _) rfl
theorem dX5_acceptInRow_115 : decode cX5_acceptInRow 115 = .ok (.getfield 42, 3) := dec_2 oX5_acceptInRow (of180 _) 0 42 rfl rfl
theorem dX5_acceptInRow_118 : decode cX5_acceptInRow 118 = .ok (.getfield 190, 3) := dec_2 oX5_acceptInRow (of180 _) 0 190 rfl rfl
theorem dX5_acceptInRow_121 : decode cX5_acceptInRow 121 = .ok (.invokevirtual 196, 3) := dec_2 oX5_acceptInRow (of182 _) 0 196 rfl rfl
theorem dX5_acceptInRow_124 : decode cX5_acceptInRow 124 = .ok (.goto 10, 3) := dec_s2 oX5_acceptInRow (of167 _) 0 10 rfl (sg16p rfl) rfl
theorem dX5_acceptInRow_127 : decode cX5_acceptInRow 127 = .ok (.aload_n 0, 1) := dec_0 oX5_acceptInRow (of42 _) rfl
theorem dX5_acceptInRow_128 : decode cX5_acceptInRow 128 = .ok (.sipush (-1000), 3) := dec_s2 oX5_acceptInRow (of17 _) 252 24 rfl (sg16n (k := 1000) rfl) rfl
theorem dX5_acceptInRow_131 : decode cX5_acceptInRow 131 = .ok (.invokevirtual 196, 3) := dec_2 oX5_acceptInRow (of182 _) 0 196 rfl rfl
theorem dX5_acceptInRow_134 : decode cX5_acceptInRow 134 = .ok (.return_, 1) := dec_0 oX5_acceptInRow (of177 _) rfl
theorem dX5_keepInRow_0 : decode cX5_keepInRow 0 = .ok (.aload_n 0, 1) := dec_0 oX5_keepInRow (of42 _) rfl
theorem dX5_keepInRow_1 : decode cX5_keepInRow 1 = .ok (.getfield 75, 3) := dec_2 oX5_keepInRow (of180 _) 0 75 rfl rfl
theorem dX5_keepInRow_4 : decode cX5_keepInRow 4 = .ok (.iconst 1, 1) := dec_0 oX5_keepInRow (of4 _) rfl
theorem dX5_keepInRow_5 : decode cX5_keepInRow 5 = .ok (.if_icmp .ne 14, 3) := dec_s2 oX5_keepInRow (of160 _) 0 14 rfl (sg16p rfl) rfl
theorem dX5_keepInRow_8 : decode cX5_keepInRow 8 = .ok (.aload_n 0, 1) := dec_0 oX5_keepInRow (of42 _) rfl
theorem dX5_keepInRow_9 : decode cX5_keepInRow 9 = .ok (.getfield 12, 3) := dec_2 oX5_keepInRow (of180 _) 0 12 rfl rfl
theorem dX5_keepInRow_12 : decode cX5_keepInRow 12 = .ok (.iload_n 1, 1) := dec_0 oX5_keepInRow (of27 _) rfl
theorem dX5_keepInRow_13 : decode cX5_keepInRow 13 = .ok (.invokevirtual 199, 3) := dec_2 oX5_keepInRow (of182 _) 0 199 rfl rfl
theorem dX5_keepInRow_16 : decode cX5_keepInRow 16 = .ok (.goto 11, 3) := dec_s2 oX5_keepInRow (of167 _) 0 11 rfl (sg16p rfl) rfl
theorem dX5_keepInRow_19 : decode cX5_keepInRow 19 = .ok (.aload_n 0, 1) := dec_0 oX5_keepInRow (of42 _) rfl
theorem dX5_keepInRow_20 : decode cX5_keepInRow 20 = .ok (.getfield 21, 3) := dec_2 oX5_keepInRow (of180 _) 0 21 rfl rfl
theorem dX5_keepInRow_23 : decode cX5_keepInRow 23 = .ok (.iload_n 1, 1) := dec_0 oX5_keepInRow (of27 _) rfl
theorem dX5_keepInRow_24 : decode cX5_keepInRow 24 = .ok (.invokevirtual 202, 3) := dec_2 oX5_keepInRow (of182 _) 0 202 rfl rfl
theorem dX5_keepInRow_27 : decode cX5_keepInRow 27 = .ok (.aload_n 0, 1) := dec_0 oX5_keepInRow (of42 _) rfl
theorem dX5_keepInRow_28 : decode cX5_keepInRow 28 = .ok (.dup, 1) := dec_0 oX5_keepInRow (of89 _) rfl
theorem dX5_keepInRow_29 : decode cX5_keepInRow 29 = .ok (.getfield 32, 3) := dec_2 oX5_keepInRow (of180 _) 0 32 rfl rfl
theorem dX5_keepInRow_32 : decode cX5_keepInRow 32 = .ok (.iconst 1, 1) := dec_0 oX5_keepInRow (of4 _) rfl
theorem dX5_keepInRow_33 : decode cX5_keepInRow 33 = .ok (.iadd, 1) := dec_0 oX5_keepInRow (of96 _) rfl
theorem dX5_keepInRow_34 : decode cX5_keepInRow 34 = .ok (.putfield 32, 3) := dec_2 oX5_keepInRow (of181 _) 0 32 rfl rfl
theorem dX5_keepInRow_37 : decode cX5_keepInRow 37 = .ok (.aload_n 0, 1) := dec_0 oX5_keepInRow (of42 _) rfl
theorem dX5_keepInRow_38 : decode cX5_keepInRow 38 = .ok (.iconst 0, 1) := dec_0 oX5_keepInRow (of3 _) rfl
theorem dX5_keepInRow_39 : decode cX5_keepInRow 39 = .ok (.putfield 87, 3) := dec_2 oX5_keepInRow (of181 _) 0 87 rfl rfl
theorem dX5_keepInRow_42 : decode cX5_keepInRow 42 = .ok (.return_, 1) := dec_0 oX5_keepInRow (of177 _) rfl
theorem dX6_takeFrom_20 : decode cX6_takeFrom 20 = .ok (.aload_n 0, 1) := dec_0 oX6_takeFrom (of42 _) rfl
theorem dX6_takeFrom_21 : decode cX6_takeFrom 21 = .ok (.aload_n 1, 1) := dec_0 oX6_takeFrom (of43 _) rfl
theorem dX6_takeFrom_22 : decode cX6_takeFrom 22 = .ok (.iload_n 2, 1) := dec_0 oX6_takeFrom (of28 _) rfl
theorem dX6_takeFrom_23 : decode cX6_takeFrom 23 = .ok (.invokevirtual 25, 3) := dec_2 oX6_takeFrom (of182 _) 0 25 rfl rfl
theorem dX6_takeFrom_26 : decode cX6_takeFrom 26 = .ok (.invokevirtual 29, 3) := dec_2 oX6_takeFrom (of182 _) 0 29 rfl rfl
theorem dX6_takeFrom_29 : decode cX6_takeFrom 29 = .ok (.pop, 1) := dec_0 oX6_takeFrom (of87 _) rfl
theorem dX6_takeFrom_30 : decode cX6_takeFrom 30 = .ok (.iinc 2 1, 3) := dec_ii oX6_takeFrom (of132 _) 2 1 rfl (sg8p rfl) rfl
theorem dX6_takeFrom_33 : decode cX6_takeFrom 33 = .ok (.goto (-21), 3) := dec_s2 oX6_takeFrom (of167 _) 255 235 rfl (sg16n (k := 21) rfl) rfl
theorem dX6_copyInto_15 : decode cX6_copyInto 15 = .ok (.aload_n 1, 1) := dec_0 oX6_copyInto (of43 _) rfl
theorem dX6_copyInto_16 : decode cX6_copyInto 16 = .ok (.aload_n 0, 1) := dec_0 oX6_copyInto (of42 _) rfl
theorem dX6_copyInto_17 : decode cX6_copyInto 17 = .ok (.iload_n 2, 1) := dec_0 oX6_copyInto (of28 _) rfl
theorem dX6_copyInto_18 : decode cX6_copyInto 18 = .ok (.invokevirtual 33, 3) := dec_2 oX6_copyInto (of182 _) 0 33 rfl rfl
theorem dX6_copyInto_21 : decode cX6_copyInto 21 = .ok (.invokevirtual 34, 3) := dec_2 oX6_copyInto (of182 _) 0 34 rfl rfl
theorem dX6_copyInto_24 : decode cX6_copyInto 24 = .ok (.iinc 2 1, 3) := dec_ii oX6_copyInto (of132 _) 2 1 rfl (sg8p rfl) rfl
theorem dX6_copyInto_27 : decode cX6_copyInto 27 = .ok (.goto (-20), 3) := dec_s2 oX6_copyInto (of167 _) 255 236 rfl (sg16n (k := 20) rfl) rfl
theorem dX6_valueAt_12 : decode cX6_valueAt 12 = .ok (.aload_n 0, 1) := dec_0 oX6_valueAt (of42 _) rfl
theorem dX6_valueAt_13 : decode cX6_valueAt 13 = .ok (.getfield 11, 3) := dec_2 oX6_valueAt (of180 _) 0 11 rfl rfl
theorem dX6_valueAt_16 : decode cX6_valueAt 16 = .ok (.aload_n 0, 1) := dec_0 oX6_valueAt (of42 _) rfl
theorem dX6_valueAt_17 : decode cX6_valueAt 17 = .ok (.getfield 15, 3) := dec_2 oX6_valueAt (of180 _) 0 15 rfl rfl
theorem dX6_valueAt_20 : decode cX6_valueAt 20 = .ok (.iload_n 1, 1) := dec_0 oX6_valueAt (of27 _) rfl
theorem dX6_valueAt_21 : decode cX6_valueAt 21 = .ok (.iadd, 1) := dec_0 oX6_valueAt (of96 _) rfl
theorem dX6_valueAt_22 : decode cX6_valueAt 22 = .ok (.sipush 255, 3) := dec_s2 oX6_valueAt (of17 _) 0 255 rfl (sg16p rfl) rfl
theorem dX6_valueAt_25 : decode cX6_valueAt 25 = .ok (.iand, 1) := dec_0 oX6_valueAt (of126 _) rfl
theorem dX6_valueAt_26 : decode cX6_valueAt 26 = .ok (.iaload, 1) := dec_0 oX6_valueAt (of46 _) rfl
theorem dX6_valueAt_27 : decode cX6_valueAt 27 = .ok (.goto 6, 3) := dec_s2 oX6_valueAt (of167 _) 0 6 rfl (sg16p rfl) rfl
theorem dX6_putAt_0 : decode cX6_putAt 0 = .ok (.iload_n 1, 1) := dec_0 oX6_putAt (of27 _) rfl
theorem dX6_putAt_1 : decode cX6_putAt 1 = .ok (.ifCond .lt 27, 3) := dec_s2 oX6_putAt (of155 _) 0 27 rfl (sg16p rfl) rfl
theorem dX6_putAt_4 : decode cX6_putAt 4 = .ok (.iload_n 1, 1) := dec_0 oX6_putAt (of27 _) rfl
theorem dX6_putAt_5 : decode cX6_putAt 5 = .ok (.aload_n 0, 1) := dec_0 oX6_putAt (of42 _) rfl
theorem dX6_putAt_6 : decode cX6_putAt 6 = .ok (.getfield 19, 3) := dec_2 oX6_putAt (of180 _) 0 19 rfl rfl
theorem dX6_putAt_9 : decode cX6_putAt 9 = .ok (.if_icmp .ge 19, 3) := dec_s2 oX6_putAt (of162 _) 0 19 rfl (sg16p rfl) rfl
theorem dX6_putAt_12 : decode cX6_putAt 12 = .ok (.aload_n 0, 1) := dec_0 oX6_putAt (of42 _) rfl
theorem dX6_putAt_13 : decode cX6_putAt 13 = .ok (.getfield 11, 3) := dec_2 oX6_putAt (of180 _) 0 11 rfl rfl
theorem dX6_putAt_16 : decode cX6_putAt 16 = .ok (.aload_n 0, 1) := dec_0 oX6_putAt (of42 _) rfl
theorem dX6_putAt_17 : decode cX6_putAt 17 = .ok (.getfield 15, 3) := dec_2 oX6_putAt (of180 _) 0 15 rfl rfl
theorem dX6_putAt_20 : decode cX6_putAt 20 = .ok (.iload_n 1, 1) := dec_0 oX6_putAt (of27 _) rfl
theorem dX6_putAt_21 : decode cX6_putAt 21 = .ok (.iadd, 1) := dec_0 oX6_putAt (of96 _) rfl
theorem dX6_putAt_22 : decode cX6_putAt 22 = .ok (.sipush 255, 3) := dec_s2 oX6_putAt (of17 _) 0 255 rfl (sg16p rfl) rfl
theorem dX6_putAt_25 : decode cX6_putAt 25 = .ok (.iand, 1) := dec_0 oX6_putAt (of126 _) rfl
theorem dX6_putAt_26 : decode cX6_putAt 26 = .ok (.iload_n 2, 1) := dec_0 oX6_putAt (of28 _) rfl
theorem dX6_putAt_27 : decode cX6_putAt 27 = .ok (.iastore, 1) := dec_0 oX6_putAt (of79 _) rfl
theorem dX6_putAt_28 : decode cX6_putAt 28 = .ok (.return_, 1) := dec_0 oX6_putAt (of177 _) rfl
theorem dX6_append_10 : decode cX6_append 10 = .ok (.iconst 0, 1) := dec_0 oX6_append (of3 _) rfl
theorem dX6_append_11 : decode cX6_append 11 = .ok (.ireturn, 1) := dec_0 oX6_append (of172 _) rfl
theorem dX6_cutLast_0 : decode cX6_cutLast 0 = .ok (.aload_n 0, 1) := dec_0 oX6_cutLast (of42 _) rfl
theorem dX6_cutLast_1 : decode cX6_cutLast 1 = .ok (.getfield 19, 3) := dec_2 oX6_cutLast (of180 _) 0 19 rfl rfl
theorem dX6_cutLast_4 : decode cX6_cutLast 4 = .ok (.ifCond .le 13, 3) := dec_s2 oX6_cutLast (of158 _) 0 13 rfl (sg16p rfl) rfl
theorem dX6_cutLast_7 : decode cX6_cutLast 7 = .ok (.aload_n 0, 1) := dec_0 oX6_cutLast (of42 _) rfl
theorem dX6_cutLast_8 : decode cX6_cutLast 8 = .ok (.dup, 1) := dec_0 oX6_cutLast (of89 _) rfl
theorem dX6_cutLast_9 : decode cX6_cutLast 9 = .ok (.getfield 19, 3) := dec_2 oX6_cutLast (of180 _) 0 19 rfl rfl
theorem dX6_cutLast_12 : decode cX6_cutLast 12 = .ok (.iconst 1, 1) := dec_0 oX6_cutLast (of4 _) rfl
theorem dX6_cutLast_13 : decode cX6_cutLast 13 = .ok (.isub, 1) := dec_0 oX6_cutLast (of100 _) rfl
theorem dX6_cutLast_14 : decode cX6_cutLast 14 = .ok (.putfield 19, 3) := dec_2 oX6_cutLast (of181 _) 0 19 rfl rfl
theorem dX6_cutLast_17 : decode cX6_cutLast 17 = .ok (.return_, 1) := dec_0 oX6_cutLast (of177 _) rfl
theorem dX6_cutFirst_15 : decode cX6_cutFirst 15 = .ok (.aload_n 0, 1) := dec_0 oX6_cutFirst (of42 _) rfl
theorem dX6_cutFirst_16 : decode cX6_cutFirst 16 = .ok (.aload_n 0, 1) := dec_0 oX6_cutFirst (of42 _) rfl
theorem dX6_cutFirst_17 : decode cX6_cutFirst 17 = .ok (.getfield 15, 3) := dec_2 oX6_cutFirst (of180 _) 0 15 rfl rfl
theorem dX6_cutFirst_20 : decode cX6_cutFirst 20 = .ok (.iload_n 1, 1) := dec_0 oX6_cutFirst (of27 _) rfl
theorem dX6_cutFirst_21 : decode cX6_cutFirst 21 = .ok (.iadd, 1) := dec_0 oX6_cutFirst (of96 _) rfl
theorem dX6_cutFirst_22 : decode cX6_cutFirst 22 = .ok (.sipush 255, 3) := dec_s2 oX6_cutFirst (of17 _) 0 255 rfl (sg16p rfl) rfl
theorem dX6_cutFirst_25 : decode cX6_cutFirst 25 = .ok (.iand, 1) := dec_0 oX6_cutFirst (of126 _) rfl
theorem dX6_cutFirst_26 : decode cX6_cutFirst 26 = .ok (.putfield 15, 3) := dec_2 oX6_cutFirst (of181 _) 0 15 rfl rfl
theorem dX6_cutFirst_29 : decode cX6_cutFirst 29 = .ok (.aload_n 0, 1) := dec_0 oX6_cutFirst (of42 _) rfl
theorem dX6_cutFirst_30 : decode cX6_cutFirst 30 = .ok (.dup, 1) := dec_0 oX6_cutFirst (of89 _) rfl
theorem dX6_cutFirst_31 : decode cX6_cutFirst 31 = .ok (.getfield 19, 3) := dec_2 oX6_cutFirst (of180 _) 0 19 rfl rfl
theorem dX6_cutFirst_34 : decode cX6_cutFirst 34 = .ok (.iload_n 1, 1) := dec_0 oX6_cutFirst (of27 _) rfl
theorem dX6_cutFirst_35 : decode cX6_cutFirst 35 = .ok (.isub, 1) := dec_0 oX6_cutFirst (of100 _) rfl
theorem dX6_cutFirst_36 : decode cX6_cutFirst 36 = .ok (.putfield 19, 3) := dec_2 oX6_cutFirst (of181 _) 0 19 rfl rfl
theorem dX6_cutFirst_39 : decode cX6_cutFirst 39 = .ok (.iconst 1, 1) := dec_0 oX6_cutFirst (of4 _) rfl
theorem dX6_cutFirst_40 : decode cX6_cutFirst 40 = .ok (.ireturn, 1) := dec_0 oX6_cutFirst (of172 _) rfl
theorem dX6_bringBackFirst_0 : decode cX6_bringBackFirst 0 = .ok (.iload_n 1, 1) := dec_0 oX6_bringBackFirst (of27 _) rfl
theorem dX6_bringBackFirst_1 : decode cX6_bringBackFirst 1 = .ok (.iconst 1, 1) := dec_0 oX6_bringBackFirst (of4 _) rfl
theorem dX6_bringBackFirst_2 : decode cX6_bringBackFirst 2 = .ok (.if_icmp .lt 39, 3) := dec_s2 oX6_bringBackFirst (of161 _) 0 39 rfl (sg16p rfl) rfl
theorem dX6_bringBackFirst_5 : decode cX6_bringBackFirst 5 = .ok (.iload_n 1, 1) := dec_0 oX6_bringBackFirst (of27 _) rfl
theorem dX6_bringBackFirst_6 : decode cX6_bringBackFirst 6 = .ok (.sipush 160, 3) := dec_s2 oX6_bringBackFirst (of17 _) 0 160 rfl (sg16p rfl) rfl
theorem dX6_bringBackFirst_9 : decode cX6_bringBackFirst 9 = .ok (.aload_n 0, 1) := dec_0 oX6_bringBackFirst (of42 _) rfl
theorem dX6_bringBackFirst_10 : decode cX6_bringBackFirst 10 = .ok (.getfield 19, 3) := dec_2 oX6_bringBackFirst (of180 _) 0 19 rfl rfl
theorem dX6_bringBackFirst_13 : decode cX6_bringBackFirst 13 = .ok (.isub, 1) := dec_0 oX6_bringBackFirst (of100 _) rfl
theorem dX6_bringBackFirst_14 : decode cX6_bringBackFirst 14 = .ok (.if_icmp .gt 27, 3) := dec_s2 oX6_bringBackFirst (of163 _) 0 27 rfl (sg16p rfl) rfl
theorem dX6_bringBackFirst_17 : decode cX6_bringBackFirst 17 = .ok (.aload_n 0, 1) := dec_0 oX6_bringBackFirst (of42 _) rfl
theorem dX6_bringBackFirst_18 : decode cX6_bringBackFirst 18 = .ok (.aload_n 0, 1) := dec_0 oX6_bringBackFirst (of42 _) rfl
theorem dX6_bringBackFirst_19 : decode cX6_bringBackFirst 19 = .ok (.getfield 15, 3) := dec_2 oX6_bringBackFirst (of180 _) 0 15 rfl rfl
theorem dX6_bringBackFirst_22 : decode cX6_bringBackFirst 22 = .ok (.iload_n 1, 1) := dec_0 oX6_bringBackFirst (of27 _) rfl
theorem dX6_bringBackFirst_23 : decode cX6_bringBackFirst 23 = .ok (.isub, 1) := dec_0 oX6_bringBackFirst (of100 _) rfl
theorem dX6_bringBackFirst_24 : decode cX6_bringBackFirst 24 = .ok (.sipush 255, 3) := dec_s2 oX6_bringBackFirst (of17 _) 0 255 rfl (sg16p rfl) rfl
theorem dX6_bringBackFirst_27 : decode cX6_bringBackFirst 27 = .ok (.iand, 1) := dec_0 oX6_bringBackFirst (of126 _) rfl
theorem dX6_bringBackFirst_28 : decode cX6_bringBackFirst 28 = .ok (.putfield 15, 3) := dec_2 oX6_bringBackFirst (of181 _) 0 15 rfl rfl
theorem dX6_bringBackFirst_31 : decode cX6_bringBackFirst 31 = .ok (.aload_n 0, 1) := dec_0 oX6_bringBackFirst (of42 _) rfl
theorem dX6_bringBackFirst_32 : decode cX6_bringBackFirst 32 = .ok (.dup, 1) := dec_0 oX6_bringBackFirst (of89 _) rfl
theorem dX6_bringBackFirst_33 : decode cX6_bringBackFirst 33 = .ok (.getfield 19, 3) := dec_2 oX6_bringBackFirst (of180 _) 0 19 rfl rfl
theorem dX6_bringBackFirst_36 : decode cX6_bringBackFirst 36 = .ok (.iload_n 1, 1) := dec_0 oX6_bringBackFirst (of27 _) rfl
theorem dX6_bringBackFirst_37 : decode cX6_bringBackFirst 37 = .ok (.iadd, 1) := dec_0 oX6_bringBackFirst (of96 _) rfl
theorem dX6_bringBackFirst_38 : decode cX6_bringBackFirst 38 = .ok (.putfield 19, 3) := dec_2 oX6_bringBackFirst (of181 _) 0 19 rfl rfl
theorem dX6_bringBackFirst_41 : decode cX6_bringBackFirst 41 = .ok (.return_, 1) := dec_0 oX6_bringBackFirst (of177 _) rfl
theorem dX6_hasReading_0 : decode cX6_hasReading 0 = .ok (.aload_n 0, 1) := dec_0 oX6_hasReading (of42 _) rfl
theorem dX6_hasReading_1 : decode cX6_hasReading 1 = .ok (.iload_n 1, 1) := dec_0 oX6_hasReading (of27 _) rfl
theorem dX6_hasReading_2 : decode cX6_hasReading 2 = .ok (.invokevirtual 33, 3) := dec_2 oX6_hasReading (of182 _) 0 33 rfl rfl
theorem dX6_hasReading_5 : decode cX6_hasReading 5 = .ok (.sipush (-1000), 3) := dec_s2 oX6_hasReading (of17 _) 252 24 rfl (sg16n (k := 1000) rfl) rfl
theorem dX6_hasReading_8 : decode cX6_hasReading 8 = .ok (.if_icmp .eq 7, 3) := dec_s2 oX6_hasReading (of159 _) 0 7 rfl (sg16p rfl) rfl
theorem dX6_hasReading_11 : decode cX6_hasReading 11 = .ok (.iconst 1, 1) := dec_0 oX6_hasReading (of4 _) rfl
theorem dX6_hasReading_12 : decode cX6_hasReading 12 = .ok (.goto 4, 3) := dec_s2 oX6_hasReading (of167 _) 0 4 rfl (sg16p rfl) rfl
theorem dX6_hasReading_15 : decode cX6_hasReading 15 = .ok (.iconst 0, 1) := dec_0 oX6_hasReading (of3 _) rfl
theorem dX6_hasReading_16 : decode cX6_hasReading 16 = .ok (.ireturn, 1) := dec_0 oX6_hasReading (of172 _) rfl
theorem dX6_hasWindow_12 : decode cX6_hasWindow 12 = .ok (.iload_n 2, 1) := dec_0 oX6_hasWindow (of28 _) rfl
theorem dX6_hasWindow_13 : decode cX6_hasWindow 13 = .ok (.iconst 1, 1) := dec_0 oX6_hasWindow (of4 _) rfl
theorem dX6_hasWindow_14 : decode cX6_hasWindow 14 = .ok (.if_icmp .lt 13, 3) := dec_s2 oX6_hasWindow (of161 _) 0 13 rfl (sg16p rfl) rfl
theorem dX6_hasWindow_17 : decode cX6_hasWindow 17 = .ok (.iload_n 2, 1) := dec_0 oX6_hasWindow (of28 _) rfl
theorem dX6_hasWindow_18 : decode cX6_hasWindow 18 = .ok (.aload_n 0, 1) := dec_0 oX6_hasWindow (of42 _) rfl
theorem dX6_hasWindow_19 : decode cX6_hasWindow 19 = .ok (.getfield 19, 3) := dec_2 oX6_hasWindow (of180 _) 0 19 rfl rfl
theorem dX6_hasWindow_22 : decode cX6_hasWindow 22 = .ok (.iload_n 1, 1) := dec_0 oX6_hasWindow (of27 _) rfl
theorem dX6_hasWindow_23 : decode cX6_hasWindow 23 = .ok (.isub, 1) := dec_0 oX6_hasWindow (of100 _) rfl
theorem dX6_hasWindow_24 : decode cX6_hasWindow 24 = .ok (.if_icmp .le 5, 3) := dec_s2 oX6_hasWindow (of164 _) 0 5 rfl (sg16p rfl) rfl
theorem dX6_hasWindow_29 : decode cX6_hasWindow 29 = .ok (.iconst 0, 1) := dec_0 oX6_hasWindow (of3 _) rfl
theorem dX6_hasWindow_30 : decode cX6_hasWindow 30 = .ok (.istore_n 3, 1) := dec_0 oX6_hasWindow (of62 _) rfl
theorem dX6_hasWindow_31 : decode cX6_hasWindow 31 = .ok (.iload_n 3, 1) := dec_0 oX6_hasWindow (of29 _) rfl
theorem dX6_hasWindow_32 : decode cX6_hasWindow 32 = .ok (.iload_n 2, 1) := dec_0 oX6_hasWindow (of28 _) rfl
theorem dX6_hasWindow_33 : decode cX6_hasWindow 33 = .ok (.if_icmp .ge 21, 3) := dec_s2 oX6_hasWindow (of162 _) 0 21 rfl (sg16p rfl) rfl
theorem dX6_hasWindow_36 : decode cX6_hasWindow 36 = .ok (.aload_n 0, 1) := dec_0 oX6_hasWindow (of42 _) rfl
theorem dX6_hasWindow_37 : decode cX6_hasWindow 37 = .ok (.iload_n 1, 1) := dec_0 oX6_hasWindow (of27 _) rfl
theorem dX6_hasWindow_38 : decode cX6_hasWindow 38 = .ok (.iload_n 3, 1) := dec_0 oX6_hasWindow (of29 _) rfl
theorem dX6_hasWindow_39 : decode cX6_hasWindow 39 = .ok (.iadd, 1) := dec_0 oX6_hasWindow (of96 _) rfl
theorem dX6_hasWindow_40 : decode cX6_hasWindow 40 = .ok (.invokevirtual 37, 3) := dec_2 oX6_hasWindow (of182 _) 0 37 rfl rfl
theorem dX6_hasWindow_43 : decode cX6_hasWindow 43 = .ok (.ifCond .ne 5, 3) := dec_s2 oX6_hasWindow (of154 _) 0 5 rfl (sg16p rfl) rfl
theorem dX6_hasWindow_46 : decode cX6_hasWindow 46 = .ok (.iconst 0, 1) := dec_0 oX6_hasWindow (of3 _) rfl
theorem dX6_hasWindow_47 : decode cX6_hasWindow 47 = .ok (.ireturn, 1) := dec_0 oX6_hasWindow (of172 _) rfl
theorem dX6_hasWindow_48 : decode cX6_hasWindow 48 = .ok (.iinc 3 1, 3) := dec_ii oX6_hasWindow (of132 _) 3 1 rfl (sg8p rfl) rfl
theorem dX6_hasWindow_51 : decode cX6_hasWindow 51 = .ok (.goto (-20), 3) := dec_s2 oX6_hasWindow (of167 _) 255 236 rfl (sg16n (k := 20) rfl) rfl
theorem dX6_hasWindow_54 : decode cX6_hasWindow 54 = .ok (.iconst 1, 1) := dec_0 oX6_hasWindow (of4 _) rfl
theorem dX6_hasWindow_55 : decode cX6_hasWindow 55 = .ok (.ireturn, 1) := dec_0 oX6_hasWindow (of172 _) rfl
theorem dX6_copyWindow_0 : decode cX6_copyWindow 0 = .ok (.iconst 0, 1) := dec_0 oX6_copyWindow (of3 _) rfl
theorem dX6_copyWindow_1 : decode cX6_copyWindow 1 = .ok (.istore 4, 2) := dec_1 oX6_copyWindow (of54 _) 4 rfl rfl
theorem dX6_copyWindow_3 : decode cX6_copyWindow 3 = .ok (.iload 4, 2) := dec_1 oX6_copyWindow (of21 _) 4 rfl rfl
theorem dX6_copyWindow_5 : decode cX6_copyWindow 5 = .ok (.iload_n 2, 1) := dec_0 oX6_copyWindow (of28 _) rfl
theorem dX6_copyWindow_6 : decode cX6_copyWindow 6 = .ok (.if_icmp .ge 28, 3) := dec_s2 oX6_copyWindow (of162 _) 0 28 rfl (sg16p rfl) rfl
theorem dX6_copyWindow_9 : decode cX6_copyWindow 9 = .ok (.iload 4, 2) := dec_1 oX6_copyWindow (of21 _) 4 rfl rfl
theorem dX6_copyWindow_11 : decode cX6_copyWindow 11 = .ok (.aload_n 3, 1) := dec_0 oX6_copyWindow (of45 _) rfl
theorem dX6_copyWindow_12 : decode cX6_copyWindow 12 = .ok (.arraylength, 1) := dec_0 oX6_copyWindow (of190 _) rfl
theorem dX6_copyWindow_13 : decode cX6_copyWindow 13 = .ok (.if_icmp .ge 21, 3) := dec_s2 oX6_copyWindow (of162 _) 0 21 rfl (sg16p rfl) rfl
theorem dX6_copyWindow_16 : decode cX6_copyWindow 16 = .ok (.aload_n 3, 1) := dec_0 oX6_copyWindow (of45 _) rfl
theorem dX6_copyWindow_17 : decode cX6_copyWindow 17 = .ok (.iload 4, 2) := dec_1 oX6_copyWindow (of21 _) 4 rfl rfl
theorem dX6_copyWindow_19 : decode cX6_copyWindow 19 = .ok (.aload_n 0, 1) := dec_0 oX6_copyWindow (of42 _) rfl
theorem dX6_copyWindow_20 : decode cX6_copyWindow 20 = .ok (.iload_n 1, 1) := dec_0 oX6_copyWindow (of27 _) rfl
theorem dX6_copyWindow_21 : decode cX6_copyWindow 21 = .ok (.iload 4, 2) := dec_1 oX6_copyWindow (of21 _) 4 rfl rfl
theorem dX6_copyWindow_23 : decode cX6_copyWindow 23 = .ok (.iadd, 1) := dec_0 oX6_copyWindow (of96 _) rfl
theorem dX6_copyWindow_24 : decode cX6_copyWindow 24 = .ok (.invokevirtual 33, 3) := dec_2 oX6_copyWindow (of182 _) 0 33 rfl rfl
theorem dX6_copyWindow_27 : decode cX6_copyWindow 27 = .ok (.iastore, 1) := dec_0 oX6_copyWindow (of79 _) rfl
theorem dX6_copyWindow_28 : decode cX6_copyWindow 28 = .ok (.iinc 4 1, 3) := dec_ii oX6_copyWindow (of132 _) 4 1 rfl (sg8p rfl) rfl
theorem dX6_copyWindow_31 : decode cX6_copyWindow 31 = .ok (.goto (-28), 3) := dec_s2 oX6_copyWindow (of167 _) 255 228 rfl (sg16n (k := 28) rfl) rfl
theorem dX6_copyWindow_34 : decode cX6_copyWindow 34 = .ok (.return_, 1) := dec_0 oX6_copyWindow (of177 _) rfl
theorem dX6_sumOf_11 : decode cX6_sumOf 11 = .ok (.aload_n 0, 1) := dec_0 oX6_sumOf (of42 _) rfl
theorem dX6_sumOf_12 : decode cX6_sumOf 12 = .ok (.iload_n 1, 1) := dec_0 oX6_sumOf (of27 _) rfl
theorem dX6_sumOf_13 : decode cX6_sumOf 13 = .ok (.iload 4, 2) := dec_1 oX6_sumOf (of21 _) 4 rfl rfl
theorem dX6_sumOf_15 : decode cX6_sumOf 15 = .ok (.iadd, 1) := dec_0 oX6_sumOf (of96 _) rfl
theorem dX6_sumOf_16 : decode cX6_sumOf 16 = .ok (.invokevirtual 37, 3) := dec_2 oX6_sumOf (of182 _) 0 37 rfl rfl
theorem dX6_sumOf_19 : decode cX6_sumOf 19 = .ok (.ifCond .eq 14, 3) := dec_s2 oX6_sumOf (of153 _) 0 14 rfl (sg16p rfl) rfl
theorem dX6_sumOf_22 : decode cX6_sumOf 22 = .ok (.iload_n 3, 1) := dec_0 oX6_sumOf (of29 _) rfl
theorem dX6_sumOf_23 : decode cX6_sumOf 23 = .ok (.aload_n 0, 1) := dec_0 oX6_sumOf (of42 _) rfl
theorem dX6_sumOf_24 : decode cX6_sumOf 24 = .ok (.iload_n 1, 1) := dec_0 oX6_sumOf (of27 _) rfl
theorem dX6_sumOf_25 : decode cX6_sumOf 25 = .ok (.iload 4, 2) := dec_1 oX6_sumOf (of21 _) 4 rfl rfl
theorem dX6_sumOf_27 : decode cX6_sumOf 27 = .ok (.iadd, 1) := dec_0 oX6_sumOf (of96 _) rfl
theorem dX6_sumOf_28 : decode cX6_sumOf 28 = .ok (.invokevirtual 33, 3) := dec_2 oX6_sumOf (of182 _) 0 33 rfl rfl
theorem dX6_sumOf_31 : decode cX6_sumOf 31 = .ok (.iadd, 1) := dec_0 oX6_sumOf (of96 _) rfl
theorem dX6_sumOf_32 : decode cX6_sumOf 32 = .ok (.istore_n 3, 1) := dec_0 oX6_sumOf (of62 _) rfl
theorem dX6_sumOf_33 : decode cX6_sumOf 33 = .ok (.iinc 4 1, 3) := dec_ii oX6_sumOf (of132 _) 4 1 rfl (sg8p rfl) rfl
theorem dX6_sumOf_36 : decode cX6_sumOf 36 = .ok (.goto (-31), 3) := dec_s2 oX6_sumOf (of167 _) 255 225 rfl (sg16n (k := 31) rfl) rfl
theorem dX6_leastOf_13 : decode cX6_leastOf 13 = .ok (.aload_n 0, 1) := dec_0 oX6_leastOf (of42 _) rfl
theorem dX6_leastOf_14 : decode cX6_leastOf 14 = .ok (.iload_n 1, 1) := dec_0 oX6_leastOf (of27 _) rfl
theorem dX6_leastOf_15 : decode cX6_leastOf 15 = .ok (.iload 4, 2) := dec_1 oX6_leastOf (of21 _) 4 rfl rfl
theorem dX6_leastOf_17 : decode cX6_leastOf 17 = .ok (.iadd, 1) := dec_0 oX6_leastOf (of96 _) rfl
theorem dX6_leastOf_18 : decode cX6_leastOf 18 = .ok (.invokevirtual 33, 3) := dec_2 oX6_leastOf (of182 _) 0 33 rfl rfl
theorem dX6_leastOf_21 : decode cX6_leastOf 21 = .ok (.istore 5, 2) := dec_1 oX6_leastOf (of54 _) 5 rfl rfl
theorem dX6_leastOf_23 : decode cX6_leastOf 23 = .ok (.iload 5, 2) := dec_1 oX6_leastOf (of21 _) 5 rfl rfl
theorem dX6_leastOf_25 : decode cX6_leastOf 25 = .ok (.sipush (-1000), 3) := dec_s2 oX6_leastOf (of17 _) 252 24 rfl (sg16n (k := 1000) rfl) rfl
theorem dX6_leastOf_28 : decode cX6_leastOf 28 = .ok (.if_icmp .eq 19, 3) := dec_s2 oX6_leastOf (of159 _) 0 19 rfl (sg16p rfl) rfl
theorem dX6_leastOf_31 : decode cX6_leastOf 31 = .ok (.iload_n 3, 1) := dec_0 oX6_leastOf (of29 _) rfl
theorem dX6_leastOf_32 : decode cX6_leastOf 32 = .ok (.sipush (-1000), 3) := dec_s2 oX6_leastOf (of17 _) 252 24 rfl (sg16n (k := 1000) rfl) rfl
theorem dX6_leastOf_35 : decode cX6_leastOf 35 = .ok (.if_icmp .eq 9, 3) := dec_s2 oX6_leastOf (of159 _) 0 9 rfl (sg16p rfl) rfl
theorem dX6_leastOf_38 : decode cX6_leastOf 38 = .ok (.iload 5, 2) := dec_1 oX6_leastOf (of21 _) 5 rfl rfl
theorem dX6_leastOf_40 : decode cX6_leastOf 40 = .ok (.iload_n 3, 1) := dec_0 oX6_leastOf (of29 _) rfl
theorem dX6_leastOf_41 : decode cX6_leastOf 41 = .ok (.if_icmp .ge 6, 3) := dec_s2 oX6_leastOf (of162 _) 0 6 rfl (sg16p rfl) rfl
theorem dX6_leastOf_44 : decode cX6_leastOf 44 = .ok (.iload 5, 2) := dec_1 oX6_leastOf (of21 _) 5 rfl rfl
theorem dX6_leastOf_46 : decode cX6_leastOf 46 = .ok (.istore_n 3, 1) := dec_0 oX6_leastOf (of62 _) rfl
theorem dX6_leastOf_47 : decode cX6_leastOf 47 = .ok (.iinc 4 1, 3) := dec_ii oX6_leastOf (of132 _) 4 1 rfl (sg8p rfl) rfl
theorem dX6_leastOf_50 : decode cX6_leastOf 50 = .ok (.goto (-43), 3) := dec_s2 oX6_leastOf (of167 _) 255 213 rfl (sg16n (k := 43) rfl) rfl
theorem dX6_greatestOf_13 : decode cX6_greatestOf 13 = .ok (.iload_n 3, 1) := dec_0 oX6_greatestOf (of29 _) rfl
theorem dX6_greatestOf_14 : decode cX6_greatestOf 14 = .ok (.aload_n 0, 1) := dec_0 oX6_greatestOf (of42 _) rfl
theorem dX6_greatestOf_15 : decode cX6_greatestOf 15 = .ok (.iload_n 1, 1) := dec_0 oX6_greatestOf (of27 _) rfl
theorem dX6_greatestOf_16 : decode cX6_greatestOf 16 = .ok (.iload 4, 2) := dec_1 oX6_greatestOf (of21 _) 4 rfl rfl
theorem dX6_greatestOf_18 : decode cX6_greatestOf 18 = .ok (.iadd, 1) := dec_0 oX6_greatestOf (of96 _) rfl
theorem dX6_greatestOf_19 : decode cX6_greatestOf 19 = .ok (.invokevirtual 33, 3) := dec_2 oX6_greatestOf (of182 _) 0 33 rfl rfl
theorem dX6_greatestOf_22 : decode cX6_greatestOf 22 = .ok (.invokestatic 40, 3) := dec_2 oX6_greatestOf (of184 _) 0 40 rfl rfl
theorem dX6_greatestOf_25 : decode cX6_greatestOf 25 = .ok (.istore_n 3, 1) := dec_0 oX6_greatestOf (of62 _) rfl
theorem dX6_greatestOf_26 : decode cX6_greatestOf 26 = .ok (.iinc 4 1, 3) := dec_ii oX6_greatestOf (of132 _) 4 1 rfl (sg8p rfl) rfl
theorem dX6_greatestOf_29 : decode cX6_greatestOf 29 = .ok (.goto (-22), 3) := dec_s2 oX6_greatestOf (of167 _) 255 234 rfl (sg16n (k := 22) rfl) rfl
theorem dX6_gapCount_12 : decode cX6_gapCount 12 = .ok (.aload_n 0, 1) := dec_0 oX6_gapCount (of42 _) rfl
theorem dX6_gapCount_13 : decode cX6_gapCount 13 = .ok (.iload_n 2, 1) := dec_0 oX6_gapCount (of28 _) rfl
theorem dX6_gapCount_14 : decode cX6_gapCount 14 = .ok (.invokevirtual 37, 3) := dec_2 oX6_gapCount (of182 _) 0 37 rfl rfl
theorem dX6_gapCount_17 : decode cX6_gapCount 17 = .ok (.ifCond .ne 6, 3) := dec_s2 oX6_gapCount (of154 _) 0 6 rfl (sg16p rfl) rfl
theorem dX6_gapCount_20 : decode cX6_gapCount 20 = .ok (.iinc 1 1, 3) := dec_ii oX6_gapCount (of132 _) 1 1 rfl (sg8p rfl) rfl
theorem dX6_gapCount_23 : decode cX6_gapCount 23 = .ok (.iinc 2 1, 3) := dec_ii oX6_gapCount (of132 _) 2 1 rfl (sg8p rfl) rfl
theorem dX6_gapCount_26 : decode cX6_gapCount 26 = .ok (.goto (-22), 3) := dec_s2 oX6_gapCount (of167 _) 255 234 rfl (sg16n (k := 22) rfl) rfl
theorem dX6_runFrom_12 : decode cX6_runFrom 12 = .ok (.aload_n 0, 1) := dec_0 oX6_runFrom (of42 _) rfl
theorem dX6_runFrom_13 : decode cX6_runFrom 13 = .ok (.iload_n 3, 1) := dec_0 oX6_runFrom (of29 _) rfl
theorem dX6_runFrom_14 : decode cX6_runFrom 14 = .ok (.invokevirtual 37, 3) := dec_2 oX6_runFrom (of182 _) 0 37 rfl rfl
theorem dX6_runFrom_17 : decode cX6_runFrom 17 = .ok (.ifCond .eq 12, 3) := dec_s2 oX6_runFrom (of153 _) 0 12 rfl (sg16p rfl) rfl
theorem dX6_runFrom_20 : decode cX6_runFrom 20 = .ok (.iinc 2 1, 3) := dec_ii oX6_runFrom (of132 _) 2 1 rfl (sg8p rfl) rfl
theorem dX6_runFrom_23 : decode cX6_runFrom 23 = .ok (.iinc 3 1, 3) := dec_ii oX6_runFrom (of132 _) 3 1 rfl (sg8p rfl) rfl
theorem dX6_runFrom_26 : decode cX6_runFrom 26 = .ok (.goto (-22), 3) := dec_s2 oX6_runFrom (of167 _) 255 234 rfl (sg16n (k := 22) rfl) rfl
theorem dX6_readingsAtEnd_13 : decode cX6_readingsAtEnd 13 = .ok (.aload_n 0, 1) := dec_0 oX6_readingsAtEnd (of42 _) rfl
theorem dX6_readingsAtEnd_14 : decode cX6_readingsAtEnd 14 = .ok (.iload_n 2, 1) := dec_0 oX6_readingsAtEnd (of28 _) rfl
theorem dX6_readingsAtEnd_15 : decode cX6_readingsAtEnd 15 = .ok (.invokevirtual 37, 3) := dec_2 oX6_readingsAtEnd (of182 _) 0 37 rfl rfl
theorem dX6_readingsAtEnd_18 : decode cX6_readingsAtEnd 18 = .ok (.ifCond .eq 12, 3) := dec_s2 oX6_readingsAtEnd (of153 _) 0 12 rfl (sg16p rfl) rfl
theorem dX6_readingsAtEnd_21 : decode cX6_readingsAtEnd 21 = .ok (.iinc 1 1, 3) := dec_ii oX6_readingsAtEnd (of132 _) 1 1 rfl (sg8p rfl) rfl
theorem dX6_readingsAtEnd_24 : decode cX6_readingsAtEnd 24 = .ok (.iinc 2 (-1), 3) := dec_ii oX6_readingsAtEnd (of132 _) 2 255 rfl (sg8n (k := 1) rfl) rfl
theorem dX6_readingsAtEnd_27 : decode cX6_readingsAtEnd 27 = .ok (.goto (-18), 3) := dec_s2 oX6_readingsAtEnd (of167 _) 255 238 rfl (sg16n (k := 18) rfl) rfl
theorem dX6_longestRunFirst_15 : decode cX6_longestRunFirst 15 = .ok (.aload_n 0, 1) := dec_0 oX6_longestRunFirst (of42 _) rfl
theorem dX6_longestRunFirst_16 : decode cX6_longestRunFirst 16 = .ok (.iload_n 3, 1) := dec_0 oX6_longestRunFirst (of29 _) rfl
theorem dX6_longestRunFirst_17 : decode cX6_longestRunFirst 17 = .ok (.invokevirtual 46, 3) := dec_2 oX6_longestRunFirst (of182 _) 0 46 rfl rfl
theorem dX6_longestRunFirst_20 : decode cX6_longestRunFirst 20 = .ok (.istore 4, 2) := dec_1 oX6_longestRunFirst (of54 _) 4 rfl rfl
theorem dX6_longestRunFirst_22 : decode cX6_longestRunFirst 22 = .ok (.iload 4, 2) := dec_1 oX6_longestRunFirst (of21 _) 4 rfl rfl
theorem dX6_longestRunFirst_24 : decode cX6_longestRunFirst 24 = .ok (.iload_n 2, 1) := dec_0 oX6_longestRunFirst (of28 _) rfl
theorem dX6_longestRunFirst_25 : decode cX6_longestRunFirst 25 = .ok (.if_icmp .le 8, 3) := dec_s2 oX6_longestRunFirst (of164 _) 0 8 rfl (sg16p rfl) rfl
theorem dX6_longestRunFirst_28 : decode cX6_longestRunFirst 28 = .ok (.iload 4, 2) := dec_1 oX6_longestRunFirst (of21 _) 4 rfl rfl
theorem dX6_longestRunFirst_30 : decode cX6_longestRunFirst 30 = .ok (.istore_n 2, 1) := dec_0 oX6_longestRunFirst (of61 _) rfl
theorem dX6_longestRunFirst_31 : decode cX6_longestRunFirst 31 = .ok (.iload_n 3, 1) := dec_0 oX6_longestRunFirst (of29 _) rfl
theorem dX6_longestRunFirst_32 : decode cX6_longestRunFirst 32 = .ok (.istore_n 1, 1) := dec_0 oX6_longestRunFirst (of60 _) rfl
theorem dX6_longestRunFirst_33 : decode cX6_longestRunFirst 33 = .ok (.iinc 3 1, 3) := dec_ii oX6_longestRunFirst (of132 _) 3 1 rfl (sg8p rfl) rfl
theorem dX6_longestRunFirst_36 : decode cX6_longestRunFirst 36 = .ok (.goto (-29), 3) := dec_s2 oX6_longestRunFirst (of167 _) 255 227 rfl (sg16n (k := 29) rfl) rfl
theorem dX6_flatWindows_16 : decode cX6_flatWindows 16 = .ok (.aload_n 0, 1) := dec_0 oX6_flatWindows (of42 _) rfl
theorem dX6_flatWindows_17 : decode cX6_flatWindows 17 = .ok (.iload 4, 2) := dec_1 oX6_flatWindows (of21 _) 4 rfl rfl
theorem dX6_flatWindows_19 : decode cX6_flatWindows 19 = .ok (.invokevirtual 37, 3) := dec_2 oX6_flatWindows (of182 _) 0 37 rfl rfl
theorem dX6_flatWindows_22 : decode cX6_flatWindows 22 = .ok (.ifCond .ne 8, 3) := dec_s2 oX6_flatWindows (of154 _) 0 8 rfl (sg16p rfl) rfl
theorem dX6_flatWindows_25 : decode cX6_flatWindows 25 = .ok (.iconst 0, 1) := dec_0 oX6_flatWindows (of3 _) rfl
theorem dX6_flatWindows_26 : decode cX6_flatWindows 26 = .ok (.istore_n 3, 1) := dec_0 oX6_flatWindows (of62 _) rfl
theorem dX6_flatWindows_27 : decode cX6_flatWindows 27 = .ok (.goto 32, 3) := dec_s2 oX6_flatWindows (of167 _) 0 32 rfl (sg16p rfl) rfl
theorem dX6_flatWindows_30 : decode cX6_flatWindows 30 = .ok (.iload_n 3, 1) := dec_0 oX6_flatWindows (of29 _) rfl
theorem dX6_flatWindows_31 : decode cX6_flatWindows 31 = .ok (.ifCond .le 26, 3) := dec_s2 oX6_flatWindows (of158 _) 0 26 rfl (sg16p rfl) rfl
theorem dX6_flatWindows_34 : decode cX6_flatWindows 34 = .ok (.aload_n 0, 1) := dec_0 oX6_flatWindows (of42 _) rfl
theorem dX6_flatWindows_35 : decode cX6_flatWindows 35 = .ok (.iload 4, 2) := dec_1 oX6_flatWindows (of21 _) 4 rfl rfl
theorem dX6_flatWindows_37 : decode cX6_flatWindows 37 = .ok (.invokevirtual 33, 3) := dec_2 oX6_flatWindows (of182 _) 0 33 rfl rfl
theorem dX6_flatWindows_40 : decode cX6_flatWindows 40 = .ok (.aload_n 0, 1) := dec_0 oX6_flatWindows (of42 _) rfl
theorem dX6_flatWindows_41 : decode cX6_flatWindows 41 = .ok (.iload 4, 2) := dec_1 oX6_flatWindows (of21 _) 4 rfl rfl
theorem dX6_flatWindows_43 : decode cX6_flatWindows 43 = .ok (.iconst 1, 1) := dec_0 oX6_flatWindows (of4 _) rfl
theorem dX6_flatWindows_44 : decode cX6_flatWindows 44 = .ok (.isub, 1) := dec_0 oX6_flatWindows (of100 _) rfl
theorem dX6_flatWindows_45 : decode cX6_flatWindows 45 = .ok (.invokevirtual 33, 3) := dec_2 oX6_flatWindows (of182 _) 0 33 rfl rfl
theorem dX6_flatWindows_48 : decode cX6_flatWindows 48 = .ok (.if_icmp .ne 9, 3) := dec_s2 oX6_flatWindows (of160 _) 0 9 rfl (sg16p rfl) rfl
theorem dX6_flatWindows_51 : decode cX6_flatWindows 51 = .ok (.iinc 3 1, 3) := dec_ii oX6_flatWindows (of132 _) 3 1 rfl (sg8p rfl) rfl
theorem dX6_flatWindows_54 : decode cX6_flatWindows 54 = .ok (.goto 5, 3) := dec_s2 oX6_flatWindows (of167 _) 0 5 rfl (sg16p rfl) rfl
theorem dX6_flatWindows_57 : decode cX6_flatWindows 57 = .ok (.iconst 1, 1) := dec_0 oX6_flatWindows (of4 _) rfl
theorem dX6_flatWindows_58 : decode cX6_flatWindows 58 = .ok (.istore_n 3, 1) := dec_0 oX6_flatWindows (of62 _) rfl
theorem dX6_flatWindows_59 : decode cX6_flatWindows 59 = .ok (.iload_n 3, 1) := dec_0 oX6_flatWindows (of29 _) rfl
theorem dX6_flatWindows_60 : decode cX6_flatWindows 60 = .ok (.iload_n 1, 1) := dec_0 oX6_flatWindows (of27 _) rfl
theorem dX6_flatWindows_61 : decode cX6_flatWindows 61 = .ok (.if_icmp .lt 6, 3) := dec_s2 oX6_flatWindows (of161 _) 0 6 rfl (sg16p rfl) rfl
theorem dX6_flatWindows_64 : decode cX6_flatWindows 64 = .ok (.iinc 2 1, 3) := dec_ii oX6_flatWindows (of132 _) 2 1 rfl (sg8p rfl) rfl
theorem dX6_flatWindows_67 : decode cX6_flatWindows 67 = .ok (.iinc 4 1, 3) := dec_ii oX6_flatWindows (of132 _) 4 1 rfl (sg8p rfl) rfl
theorem dX6_flatWindows_70 : decode cX6_flatWindows 70 = .ok (.goto (-63), 3) := dec_s2 oX6_flatWindows (of167 _) 255 193 rfl (sg16n (k := 63) rfl) rfl
theorem dX8_append_0 : decode cX8_append 0 = .ok (.aload_n 0, 1) := dec_0 oX8_append (of42 _) rfl
theorem dX8_append_1 : decode cX8_append 1 = .ok (.getfield 22, 3) := dec_2 oX8_append (of180 _) 0 22 rfl rfl
theorem dX8_append_4 : decode cX8_append 4 = .ok (.ifCond .lt 35, 3) := dec_s2 oX8_append (of155 _) 0 35 rfl (sg16p rfl) rfl
theorem dX8_append_7 : decode cX8_append 7 = .ok (.aload_n 0, 1) := dec_0 oX8_append (of42 _) rfl
theorem dX8_append_8 : decode cX8_append 8 = .ok (.getfield 22, 3) := dec_2 oX8_append (of180 _) 0 22 rfl rfl
theorem dX8_append_11 : decode cX8_append 11 = .ok (.aload_n 0, 1) := dec_0 oX8_append (of42 _) rfl
theorem dX8_append_12 : decode cX8_append 12 = .ok (.getfield 9, 3) := dec_2 oX8_append (of180 _) 0 9 rfl rfl
theorem dX8_append_15 : decode cX8_append 15 = .ok (.arraylength, 1) := dec_0 oX8_append (of190 _) rfl
theorem dX8_append_16 : decode cX8_append 16 = .ok (.if_icmp .ge 23, 3) := dec_s2 oX8_append (of162 _) 0 23 rfl (sg16p rfl) rfl
theorem dX8_append_19 : decode cX8_append 19 = .ok (.aload_n 0, 1) := dec_0 oX8_append (of42 _) rfl
theorem dX8_append_20 : decode cX8_append 20 = .ok (.getfield 9, 3) := dec_2 oX8_append (of180 _) 0 9 rfl rfl
theorem dX8_append_23 : decode cX8_append 23 = .ok (.aload_n 0, 1) := dec_0 oX8_append (of42 _) rfl
theorem dX8_append_24 : decode cX8_append 24 = .ok (.getfield 22, 3) := dec_2 oX8_append (of180 _) 0 22 rfl rfl
theorem dX8_append_27 : decode cX8_append 27 = .ok (.iload_n 1, 1) := dec_0 oX8_append (of27 _) rfl
theorem dX8_append_28 : decode cX8_append 28 = .ok (.iastore, 1) := dec_0 oX8_append (of79 _) rfl
theorem dX8_append_29 : decode cX8_append 29 = .ok (.aload_n 0, 1) := dec_0 oX8_append (of42 _) rfl
theorem dX8_append_30 : decode cX8_append 30 = .ok (.dup, 1) := dec_0 oX8_append (of89 _) rfl
theorem dX8_append_31 : decode cX8_append 31 = .ok (.getfield 22, 3) := dec_2 oX8_append (of180 _) 0 22 rfl rfl
theorem dX8_append_34 : decode cX8_append 34 = .ok (.iconst 1, 1) := dec_0 oX8_append (of4 _) rfl
theorem dX8_append_35 : decode cX8_append 35 = .ok (.iadd, 1) := dec_0 oX8_append (of96 _) rfl
theorem dX8_append_36 : decode cX8_append 36 = .ok (.putfield 22, 3) := dec_2 oX8_append (of181 _) 0 22 rfl rfl
theorem dX8_append_39 : decode cX8_append 39 = .ok (.return_, 1) := dec_0 oX8_append (of177 _) rfl
theorem dX8_valueAt_0 : decode cX8_valueAt 0 = .ok (.iload_n 1, 1) := dec_0 oX8_valueAt (of27 _) rfl
theorem dX8_valueAt_1 : decode cX8_valueAt 1 = .ok (.ifCond .lt 29, 3) := dec_s2 oX8_valueAt (of155 _) 0 29 rfl (sg16p rfl) rfl
theorem dX8_valueAt_4 : decode cX8_valueAt 4 = .ok (.iload_n 1, 1) := dec_0 oX8_valueAt (of27 _) rfl
theorem dX8_valueAt_5 : decode cX8_valueAt 5 = .ok (.aload_n 0, 1) := dec_0 oX8_valueAt (of42 _) rfl
theorem dX8_valueAt_6 : decode cX8_valueAt 6 = .ok (.getfield 22, 3) := dec_2 oX8_valueAt (of180 _) 0 22 rfl rfl
theorem dX8_valueAt_9 : decode cX8_valueAt 9 = .ok (.if_icmp .ge 21, 3) := dec_s2 oX8_valueAt (of162 _) 0 21 rfl (sg16p rfl) rfl
theorem dX8_valueAt_12 : decode cX8_valueAt 12 = .ok (.iload_n 1, 1) := dec_0 oX8_valueAt (of27 _) rfl
theorem dX8_valueAt_13 : decode cX8_valueAt 13 = .ok (.aload_n 0, 1) := dec_0 oX8_valueAt (of42 _) rfl
theorem dX8_valueAt_14 : decode cX8_valueAt 14 = .ok (.getfield 9, 3) := dec_2 oX8_valueAt (of180 _) 0 9 rfl rfl
theorem dX8_valueAt_17 : decode cX8_valueAt 17 = .ok (.arraylength, 1) := dec_0 oX8_valueAt (of190 _) rfl
theorem dX8_valueAt_18 : decode cX8_valueAt 18 = .ok (.if_icmp .ge 12, 3) := dec_s2 oX8_valueAt (of162 _) 0 12 rfl (sg16p rfl) rfl
theorem dX8_valueAt_21 : decode cX8_valueAt 21 = .ok (.aload_n 0, 1) := dec_0 oX8_valueAt (of42 _) rfl
theorem dX8_valueAt_22 : decode cX8_valueAt 22 = .ok (.getfield 9, 3) := dec_2 oX8_valueAt (of180 _) 0 9 rfl rfl
theorem dX8_valueAt_25 : decode cX8_valueAt 25 = .ok (.iload_n 1, 1) := dec_0 oX8_valueAt (of27 _) rfl
theorem dX8_valueAt_26 : decode cX8_valueAt 26 = .ok (.iaload, 1) := dec_0 oX8_valueAt (of46 _) rfl
theorem dX8_valueAt_27 : decode cX8_valueAt 27 = .ok (.goto 6, 3) := dec_s2 oX8_valueAt (of167 _) 0 6 rfl (sg16p rfl) rfl
theorem dX8_valueAt_30 : decode cX8_valueAt 30 = .ok (.sipush (-1000), 3) := dec_s2 oX8_valueAt (of17 _) 252 24 rfl (sg16n (k := 1000) rfl) rfl
theorem dX8_valueAt_33 : decode cX8_valueAt 33 = .ok (.ireturn, 1) := dec_0 oX8_valueAt (of172 _) rfl
theorem dX9_bringAll_36 : decode cX9_bringAll 36 = .ok (.aload_n 0, 1) := dec_0 oX9_bringAll (of42 _) rfl
theorem dX9_bringAll_37 : decode cX9_bringAll 37 = .ok (.getfield 19, 3) := dec_2 oX9_bringAll (of180 _) 0 19 rfl rfl
theorem dX9_bringAll_40 : decode cX9_bringAll 40 = .ok (.iload_n 2, 1) := dec_0 oX9_bringAll (of28 _) rfl
theorem dX9_bringAll_41 : decode cX9_bringAll 41 = .ok (.iload_n 1, 1) := dec_0 oX9_bringAll (of27 _) rfl
theorem dX9_bringAll_42 : decode cX9_bringAll 42 = .ok (.invokevirtual 40, 3) := dec_2 oX9_bringAll (of182 _) 0 40 rfl rfl
theorem dX9_bringAll_45 : decode cX9_bringAll 45 = .ok (.aload_n 0, 1) := dec_0 oX9_bringAll (of42 _) rfl
theorem dX9_bringAll_46 : decode cX9_bringAll 46 = .ok (.getfield 29, 3) := dec_2 oX9_bringAll (of180 _) 0 29 rfl rfl
theorem dX9_bringAll_49 : decode cX9_bringAll 49 = .ok (.aload_n 0, 1) := dec_0 oX9_bringAll (of42 _) rfl
theorem dX9_bringAll_50 : decode cX9_bringAll 50 = .ok (.getfield 9, 3) := dec_2 oX9_bringAll (of180 _) 0 9 rfl rfl
theorem dX9_bringAll_53 : decode cX9_bringAll 53 = .ok (.iload_n 2, 1) := dec_0 oX9_bringAll (of28 _) rfl
theorem dX9_bringAll_54 : decode cX9_bringAll 54 = .ok (.bipush 16, 2) := dec_s1 oX9_bringAll (of16 _) 16 rfl (sg8p rfl) rfl
theorem dX9_bringAll_56 : decode cX9_bringAll 56 = .ok (.imul, 1) := dec_0 oX9_bringAll (of104 _) rfl
theorem dX9_bringAll_57 : decode cX9_bringAll 57 = .ok (.invokevirtual 44, 3) := dec_2 oX9_bringAll (of182 _) 0 44 rfl rfl
theorem dX9_findNear_0 : decode cX9_findNear 0 = .ok (.aload_n 0, 1) := dec_0 oX9_findNear (of42 _) rfl
theorem dX9_findNear_1 : decode cX9_findNear 1 = .ok (.iload_n 2, 1) := dec_0 oX9_findNear (of28 _) rfl
theorem dX9_findNear_2 : decode cX9_findNear 2 = .ok (.invokevirtual 50, 3) := dec_2 oX9_findNear (of182 _) 0 50 rfl rfl
theorem dX9_findNear_5 : decode cX9_findNear 5 = .ok (.aload_n 0, 1) := dec_0 oX9_findNear (of42 _) rfl
theorem dX9_findNear_6 : decode cX9_findNear 6 = .ok (.iload_n 1, 1) := dec_0 oX9_findNear (of27 _) rfl
theorem dX9_findNear_7 : decode cX9_findNear 7 = .ok (.iload_n 2, 1) := dec_0 oX9_findNear (of28 _) rfl
theorem dX9_findNear_8 : decode cX9_findNear 8 = .ok (.iconst (-1), 1) := dec_0 oX9_findNear (of2 _) rfl
theorem dX9_findNear_9 : decode cX9_findNear 9 = .ok (.invokevirtual 54, 3) := dec_2 oX9_findNear (of182 _) 0 54 rfl rfl
theorem dX9_findNear_12 : decode cX9_findNear 12 = .ok (.return_, 1) := dec_0 oX9_findNear (of177 _) rfl
theorem dX9_findNearest_0 : decode cX9_findNearest 0 = .ok (.aload_n 0, 1) := dec_0 oX9_findNearest (of42 _) rfl
theorem dX9_findNearest_1 : decode cX9_findNearest 1 = .ok (.bipush (-2), 2) := dec_s1 oX9_findNearest (of16 _) 254 rfl (sg8n (k := 2) rfl) rfl
theorem dX9_findNearest_3 : decode cX9_findNearest 3 = .ok (.putfield 58, 3) := dec_2 oX9_findNearest (of181 _) 0 58 rfl rfl
theorem dX9_findNearest_6 : decode cX9_findNearest 6 = .ok (.aload_n 0, 1) := dec_0 oX9_findNearest (of42 _) rfl
theorem dX9_findNearest_7 : decode cX9_findNearest 7 = .ok (.bipush (-2), 2) := dec_s1 oX9_findNearest (of16 _) 254 rfl (sg8n (k := 2) rfl) rfl
theorem dX9_findNearest_9 : decode cX9_findNearest 9 = .ok (.putfield 62, 3) := dec_2 oX9_findNearest (of181 _) 0 62 rfl rfl
theorem dX9_findNearest_12 : decode cX9_findNearest 12 = .ok (.ldc 65, 2) := dec_1 oX9_findNearest (of18 _) 65 rfl rfl
theorem dX9_findNearest_14 : decode cX9_findNearest 14 = .ok (.istore 4, 2) := dec_1 oX9_findNearest (of54 _) 4 rfl rfl
theorem dX9_findNearest_16 : decode cX9_findNearest 16 = .ok (.aload_n 0, 1) := dec_0 oX9_findNearest (of42 _) rfl
theorem dX9_findNearest_17 : decode cX9_findNearest 17 = .ok (.getfield 29, 3) := dec_2 oX9_findNearest (of180 _) 0 29 rfl rfl
theorem dX9_findNearest_20 : decode cX9_findNearest 20 = .ok (.aload_n 0, 1) := dec_0 oX9_findNearest (of42 _) rfl
theorem dX9_findNearest_21 : decode cX9_findNearest 21 = .ok (.getfield 9, 3) := dec_2 oX9_findNearest (of180 _) 0 9 rfl rfl
theorem dX9_findNearest_24 : decode cX9_findNearest 24 = .ok (.iload_n 1, 1) := dec_0 oX9_findNearest (of27 _) rfl
theorem dX9_findNearest_25 : decode cX9_findNearest 25 = .ok (.bipush 16, 2) := dec_s1 oX9_findNearest (of16 _) 16 rfl (sg8p rfl) rfl
theorem dX9_findNearest_27 : decode cX9_findNearest 27 = .ok (.imul, 1) := dec_0 oX9_findNearest (of104 _) rfl
theorem dX9_findNearest_28 : decode cX9_findNearest 28 = .ok (.invokevirtual 66, 3) := dec_2 oX9_findNearest (of182 _) 0 66 rfl rfl
theorem dX9_findNearest_31 : decode cX9_findNearest 31 = .ok (.iconst 0, 1) := dec_0 oX9_findNearest (of3 _) rfl
theorem dX9_findNearest_32 : decode cX9_findNearest 32 = .ok (.istore 5, 2) := dec_1 oX9_findNearest (of54 _) 5 rfl rfl
theorem dX9_findNearest_34 : decode cX9_findNearest 34 = .ok (.iload 5, 2) := dec_1 oX9_findNearest (of21 _) 5 rfl rfl
theorem dX9_findNearest_36 : decode cX9_findNearest 36 = .ok (.sipush 160, 3) := dec_s2 oX9_findNearest (of17 _) 0 160 rfl (sg16p rfl) rfl
theorem dX9_findNearest_39 : decode cX9_findNearest 39 = .ok (.if_icmp .ge 88, 3) := dec_s2 oX9_findNearest (of162 _) 0 88 rfl (sg16p rfl) rfl
theorem dX9_findNearest_42 : decode cX9_findNearest 42 = .ok (.iload 4, 2) := dec_1 oX9_findNearest (of21 _) 4 rfl rfl
theorem dX9_findNearest_44 : decode cX9_findNearest 44 = .ok (.iload_n 3, 1) := dec_0 oX9_findNearest (of29 _) rfl
theorem dX9_findNearest_45 : decode cX9_findNearest 45 = .ok (.if_icmp .le 82, 3) := dec_s2 oX9_findNearest (of164 _) 0 82 rfl (sg16p rfl) rfl
theorem dX9_findNearest_48 : decode cX9_findNearest 48 = .ok (.aload_n 0, 1) := dec_0 oX9_findNearest (of42 _) rfl
theorem dX9_findNearest_49 : decode cX9_findNearest 49 = .ok (.getfield 15, 3) := dec_2 oX9_findNearest (of180 _) 0 15 rfl rfl
theorem dX9_findNearest_52 : decode cX9_findNearest 52 = .ok (.iload 5, 2) := dec_1 oX9_findNearest (of21 _) 5 rfl rfl
theorem dX9_findNearest_54 : decode cX9_findNearest 54 = .ok (.baload, 1) := dec_0 oX9_findNearest (of51 _) rfl
theorem dX9_findNearest_55 : decode cX9_findNearest 55 = .ok (.ifCond .eq 66, 3) := dec_s2 oX9_findNearest (of153 _) 0 66 rfl (sg16p rfl) rfl
theorem dX9_findNearest_58 : decode cX9_findNearest 58 = .ok (.iload 5, 2) := dec_1 oX9_findNearest (of21 _) 5 rfl rfl
theorem dX9_findNearest_60 : decode cX9_findNearest 60 = .ok (.iload_n 1, 1) := dec_0 oX9_findNearest (of27 _) rfl
theorem dX9_findNearest_61 : decode cX9_findNearest 61 = .ok (.isub, 1) := dec_0 oX9_findNearest (of100 _) rfl
theorem dX9_findNearest_62 : decode cX9_findNearest 62 = .ok (.invokestatic 69, 3) := dec_2 oX9_findNearest (of184 _) 0 69 rfl rfl
theorem dX9_findNearest_65 : decode cX9_findNearest 65 = .ok (.iload_n 2, 1) := dec_0 oX9_findNearest (of28 _) rfl
theorem dX9_findNearest_66 : decode cX9_findNearest 66 = .ok (.if_icmp .ge 6, 3) := dec_s2 oX9_findNearest (of162 _) 0 6 rfl (sg16p rfl) rfl
theorem dX9_findNearest_69 : decode cX9_findNearest 69 = .ok (.goto 52, 3) := dec_s2 oX9_findNearest (of167 _) 0 52 rfl (sg16p rfl) rfl
theorem dX9_findNearest_72 : decode cX9_findNearest 72 = .ok (.aload_n 0, 1) := dec_0 oX9_findNearest (of42 _) rfl
theorem dX9_findNearest_73 : decode cX9_findNearest 73 = .ok (.getfield 29, 3) := dec_2 oX9_findNearest (of180 _) 0 29 rfl rfl
theorem dX9_findNearest_76 : decode cX9_findNearest 76 = .ok (.aload_n 0, 1) := dec_0 oX9_findNearest (of42 _) rfl
theorem dX9_findNearest_77 : decode cX9_findNearest 77 = .ok (.getfield 9, 3) := dec_2 oX9_findNearest (of180 _) 0 9 rfl rfl
theorem dX9_findNearest_80 : decode cX9_findNearest 80 = .ok (.iload 5, 2) := dec_1 oX9_findNearest (of21 _) 5 rfl rfl
theorem dX9_findNearest_82 : decode cX9_findNearest 82 = .ok (.bipush 16, 2) := dec_s1 oX9_findNearest (of16 _) 16 rfl (sg8p rfl) rfl
theorem dX9_findNearest_84 : decode cX9_findNearest 84 = .ok (.imul, 1) := dec_0 oX9_findNearest (of104 _) rfl
theorem dX9_findNearest_85 : decode cX9_findNearest 85 = .ok (.invokevirtual 75, 3) := dec_2 oX9_findNearest (of182 _) 0 75 rfl rfl
theorem dX9_findNearest_88 : decode cX9_findNearest 88 = .ok (.aload_n 0, 1) := dec_0 oX9_findNearest (of42 _) rfl
theorem dX9_findNearest_89 : decode cX9_findNearest 89 = .ok (.getfield 29, 3) := dec_2 oX9_findNearest (of180 _) 0 29 rfl rfl
theorem dX9_findNearest_92 : decode cX9_findNearest 92 = .ok (.iload 4, 2) := dec_1 oX9_findNearest (of21 _) 4 rfl rfl
theorem dX9_findNearest_94 : decode cX9_findNearest 94 = .ok (.invokevirtual 78, 3) := dec_2 oX9_findNearest (of182 _) 0 78 rfl rfl
theorem dX9_findNearest_97 : decode cX9_findNearest 97 = .ok (.ifCond .eq 24, 3) := dec_s2 oX9_findNearest (of153 _) 0 24 rfl (sg16p rfl) rfl
theorem dX9_findNearest_100 : decode cX9_findNearest 100 = .ok (.aload_n 0, 1) := dec_0 oX9_findNearest (of42 _) rfl
theorem dX9_findNearest_101 : decode cX9_findNearest 101 = .ok (.getfield 29, 3) := dec_2 oX9_findNearest (of180 _) 0 29 rfl rfl
theorem dX9_findNearest_104 : decode cX9_findNearest 104 = .ok (.invokevirtual 82, 3) := dec_2 oX9_findNearest (of182 _) 0 82 rfl rfl
theorem dX9_findNearest_107 : decode cX9_findNearest 107 = .ok (.istore 4, 2) := dec_1 oX9_findNearest (of54 _) 4 rfl rfl
theorem dX9_findNearest_109 : decode cX9_findNearest 109 = .ok (.aload_n 0, 1) := dec_0 oX9_findNearest (of42 _) rfl
theorem dX9_findNearest_110 : decode cX9_findNearest 110 = .ok (.iload 5, 2) := dec_1 oX9_findNearest (of21 _) 5 rfl rfl
theorem dX9_findNearest_112 : decode cX9_findNearest 112 = .ok (.putfield 58, 3) := dec_2 oX9_findNearest (of181 _) 0 58 rfl rfl
theorem dX9_findNearest_115 : decode cX9_findNearest 115 = .ok (.aload_n 0, 1) := dec_0 oX9_findNearest (of42 _) rfl
theorem dX9_findNearest_116 : decode cX9_findNearest 116 = .ok (.iload 4, 2) := dec_1 oX9_findNearest (of21 _) 4 rfl rfl
theorem dX9_findNearest_118 : decode cX9_findNearest 118 = .ok (.putfield 62, 3) := dec_2 oX9_findNearest (of181 _) 0 62 rfl rfl
theorem dX9_findNearest_121 : decode cX9_findNearest 121 = .ok (.iinc 5 1, 3) := dec_ii oX9_findNearest (of132 _) 5 1 rfl (sg8p rfl) rfl
theorem dX9_findNearest_124 : decode cX9_findNearest 124 = .ok (.goto (-90), 3) := dec_s2 oX9_findNearest (of167 _) 255 166 rfl (sg16n (k := 90) rfl) rfl
theorem dX9_findNearest_127 : decode cX9_findNearest 127 = .ok (.return_, 1) := dec_0 oX9_findNearest (of177 _) rfl
theorem dX9_findPair_41 : decode cX9_findPair 41 = .ok (.aload_n 0, 1) := dec_0 oX9_findPair (of42 _) rfl
theorem dX9_findPair_42 : decode cX9_findPair 42 = .ok (.getfield 29, 3) := dec_2 oX9_findPair (of180 _) 0 29 rfl rfl
theorem dX9_findPair_45 : decode cX9_findPair 45 = .ok (.aload_n 0, 1) := dec_0 oX9_findPair (of42 _) rfl
theorem dX9_findPair_46 : decode cX9_findPair 46 = .ok (.getfield 9, 3) := dec_2 oX9_findPair (of180 _) 0 9 rfl rfl
theorem dX9_findPair_49 : decode cX9_findPair 49 = .ok (.iload_n 2, 1) := dec_0 oX9_findPair (of28 _) rfl
theorem dX9_findPair_50 : decode cX9_findPair 50 = .ok (.bipush 16, 2) := dec_s1 oX9_findPair (of16 _) 16 rfl (sg8p rfl) rfl
theorem dX9_findPair_52 : decode cX9_findPair 52 = .ok (.imul, 1) := dec_0 oX9_findPair (of104 _) rfl
theorem dX9_findPair_53 : decode cX9_findPair 53 = .ok (.invokevirtual 66, 3) := dec_2 oX9_findPair (of182 _) 0 66 rfl rfl
theorem dX9_findPair_56 : decode cX9_findPair 56 = .ok (.aload_n 0, 1) := dec_0 oX9_findPair (of42 _) rfl
theorem dX9_findPair_57 : decode cX9_findPair 57 = .ok (.iload_n 2, 1) := dec_0 oX9_findPair (of28 _) rfl
theorem dX9_findPair_58 : decode cX9_findPair 58 = .ok (.iload_n 1, 1) := dec_0 oX9_findPair (of27 _) rfl
theorem dX9_findPair_59 : decode cX9_findPair 59 = .ok (.invokevirtual 95, 3) := dec_2 oX9_findPair (of182 _) 0 95 rfl rfl
theorem dX9_seekPairOf_0 : decode cX9_seekPairOf 0 = .ok (.iload_n 1, 1) := dec_0 oX9_seekPairOf (of27 _) rfl
theorem dX9_seekPairOf_1 : decode cX9_seekPairOf 1 = .ok (.iload_n 2, 1) := dec_0 oX9_seekPairOf (of28 _) rfl
theorem dX9_seekPairOf_2 : decode cX9_seekPairOf 2 = .ok (.iadd, 1) := dec_0 oX9_seekPairOf (of96 _) rfl
theorem dX9_seekPairOf_3 : decode cX9_seekPairOf 3 = .ok (.istore_n 3, 1) := dec_0 oX9_seekPairOf (of62 _) rfl
theorem dX9_seekPairOf_4 : decode cX9_seekPairOf 4 = .ok (.iload_n 3, 1) := dec_0 oX9_seekPairOf (of29 _) rfl
theorem dX9_seekPairOf_5 : decode cX9_seekPairOf 5 = .ok (.sipush 160, 3) := dec_s2 oX9_seekPairOf (of17 _) 0 160 rfl (sg16p rfl) rfl
theorem dX9_seekPairOf_8 : decode cX9_seekPairOf 8 = .ok (.if_icmp .ge 83, 3) := dec_s2 oX9_seekPairOf (of162 _) 0 83 rfl (sg16p rfl) rfl
theorem dX9_seekPairOf_11 : decode cX9_seekPairOf 11 = .ok (.aload_n 0, 1) := dec_0 oX9_seekPairOf (of42 _) rfl
theorem dX9_seekPairOf_12 : decode cX9_seekPairOf 12 = .ok (.getfield 15, 3) := dec_2 oX9_seekPairOf (of180 _) 0 15 rfl rfl
theorem dX9_seekPairOf_15 : decode cX9_seekPairOf 15 = .ok (.iload_n 3, 1) := dec_0 oX9_seekPairOf (of29 _) rfl
theorem dX9_seekPairOf_16 : decode cX9_seekPairOf 16 = .ok (.baload, 1) := dec_0 oX9_seekPairOf (of51 _) rfl
theorem dX9_seekPairOf_17 : decode cX9_seekPairOf 17 = .ok (.ifCond .ne 6, 3) := dec_s2 oX9_seekPairOf (of154 _) 0 6 rfl (sg16p rfl) rfl
theorem dX9_seekPairOf_20 : decode cX9_seekPairOf 20 = .ok (.goto 65, 3) := dec_s2 oX9_seekPairOf (of167 _) 0 65 rfl (sg16p rfl) rfl
theorem dX9_seekPairOf_23 : decode cX9_seekPairOf 23 = .ok (.aload_n 0, 1) := dec_0 oX9_seekPairOf (of42 _) rfl
theorem dX9_seekPairOf_24 : decode cX9_seekPairOf 24 = .ok (.getfield 29, 3) := dec_2 oX9_seekPairOf (of180 _) 0 29 rfl rfl
theorem dX9_seekPairOf_27 : decode cX9_seekPairOf 27 = .ok (.aload_n 0, 1) := dec_0 oX9_seekPairOf (of42 _) rfl
theorem dX9_seekPairOf_28 : decode cX9_seekPairOf 28 = .ok (.getfield 9, 3) := dec_2 oX9_seekPairOf (of180 _) 0 9 rfl rfl
theorem dX9_seekPairOf_31 : decode cX9_seekPairOf 31 = .ok (.iload_n 3, 1) := dec_0 oX9_seekPairOf (of29 _) rfl
theorem dX9_seekPairOf_32 : decode cX9_seekPairOf 32 = .ok (.bipush 16, 2) := dec_s1 oX9_seekPairOf (of16 _) 16 rfl (sg8p rfl) rfl
theorem dX9_seekPairOf_34 : decode cX9_seekPairOf 34 = .ok (.imul, 1) := dec_0 oX9_seekPairOf (of104 _) rfl
theorem dX9_seekPairOf_35 : decode cX9_seekPairOf 35 = .ok (.invokevirtual 75, 3) := dec_2 oX9_seekPairOf (of182 _) 0 75 rfl rfl
theorem dX9_seekPairOf_38 : decode cX9_seekPairOf 38 = .ok (.aload_n 0, 1) := dec_0 oX9_seekPairOf (of42 _) rfl
theorem dX9_seekPairOf_39 : decode cX9_seekPairOf 39 = .ok (.getfield 29, 3) := dec_2 oX9_seekPairOf (of180 _) 0 29 rfl rfl
theorem dX9_seekPairOf_42 : decode cX9_seekPairOf 42 = .ok (.aload_n 0, 1) := dec_0 oX9_seekPairOf (of42 _) rfl
theorem dX9_seekPairOf_43 : decode cX9_seekPairOf 43 = .ok (.getfield 92, 3) := dec_2 oX9_seekPairOf (of180 _) 0 92 rfl rfl
theorem dX9_seekPairOf_46 : decode cX9_seekPairOf 46 = .ok (.ifCond .ge 8, 3) := dec_s2 oX9_seekPairOf (of156 _) 0 8 rfl (sg16p rfl) rfl
theorem dX9_seekPairOf_49 : decode cX9_seekPairOf 49 = .ok (.ldc 65, 2) := dec_1 oX9_seekPairOf (of18 _) 65 rfl rfl
theorem dX9_seekPairOf_51 : decode cX9_seekPairOf 51 = .ok (.goto 7, 3) := dec_s2 oX9_seekPairOf (of167 _) 0 7 rfl (sg16p rfl) rfl
theorem dX9_seekPairOf_54 : decode cX9_seekPairOf 54 = .ok (.aload_n 0, 1) := dec_0 oX9_seekPairOf (of42 _) rfl
theorem dX9_seekPairOf_55 : decode cX9_seekPairOf 55 = .ok (.getfield 92, 3) := dec_2 oX9_seekPairOf (of180 _) 0 92 rfl rfl
theorem dX9_seekPairOf_58 : decode cX9_seekPairOf 58 = .ok (.invokevirtual 78, 3) := dec_2 oX9_seekPairOf (of182 _) 0 78 rfl rfl
theorem dX9_seekPairOf_61 : decode cX9_seekPairOf 61 = .ok (.ifCond .eq 24, 3) := dec_s2 oX9_seekPairOf (of153 _) 0 24 rfl (sg16p rfl) rfl
theorem dX9_seekPairOf_64 : decode cX9_seekPairOf 64 = .ok (.aload_n 0, 1) := dec_0 oX9_seekPairOf (of42 _) rfl
theorem dX9_seekPairOf_65 : decode cX9_seekPairOf 65 = .ok (.iload_n 1, 1) := dec_0 oX9_seekPairOf (of27 _) rfl
theorem dX9_seekPairOf_66 : decode cX9_seekPairOf 66 = .ok (.putfield 86, 3) := dec_2 oX9_seekPairOf (of181 _) 0 86 rfl rfl
theorem dX9_seekPairOf_69 : decode cX9_seekPairOf 69 = .ok (.aload_n 0, 1) := dec_0 oX9_seekPairOf (of42 _) rfl
theorem dX9_seekPairOf_70 : decode cX9_seekPairOf 70 = .ok (.iload_n 3, 1) := dec_0 oX9_seekPairOf (of29 _) rfl
theorem dX9_seekPairOf_71 : decode cX9_seekPairOf 71 = .ok (.putfield 89, 3) := dec_2 oX9_seekPairOf (of181 _) 0 89 rfl rfl
theorem dX9_seekPairOf_74 : decode cX9_seekPairOf 74 = .ok (.aload_n 0, 1) := dec_0 oX9_seekPairOf (of42 _) rfl
theorem dX9_seekPairOf_75 : decode cX9_seekPairOf 75 = .ok (.aload_n 0, 1) := dec_0 oX9_seekPairOf (of42 _) rfl
theorem dX9_seekPairOf_76 : decode cX9_seekPairOf 76 = .ok (.getfield 29, 3) := dec_2 oX9_seekPairOf (of180 _) 0 29 rfl rfl
theorem dX9_seekPairOf_79 : decode cX9_seekPairOf 79 = .ok (.invokevirtual 82, 3) := dec_2 oX9_seekPairOf (of182 _) 0 82 rfl rfl
theorem dX9_seekPairOf_82 : decode cX9_seekPairOf 82 = .ok (.putfield 92, 3) := dec_2 oX9_seekPairOf (of181 _) 0 92 rfl rfl
theorem dX9_seekPairOf_85 : decode cX9_seekPairOf 85 = .ok (.iinc 3 1, 3) := dec_ii oX9_seekPairOf (of132 _) 3 1 rfl (sg8p rfl) rfl
theorem dX9_seekPairOf_88 : decode cX9_seekPairOf 88 = .ok (.goto (-84), 3) := dec_s2 oX9_seekPairOf (of167 _) 255 172 rfl (sg16n (k := 84) rfl) rfl
theorem dX9_seekPairOf_91 : decode cX9_seekPairOf 91 = .ok (.return_, 1) := dec_0 oX9_seekPairOf (of177 _) rfl
theorem dX9_findOdd_38 : decode cX9_findOdd 38 = .ok (.aload_n 0, 1) := dec_0 oX9_findOdd (of42 _) rfl
theorem dX9_findOdd_39 : decode cX9_findOdd 39 = .ok (.iload_n 2, 1) := dec_0 oX9_findOdd (of28 _) rfl
theorem dX9_findOdd_40 : decode cX9_findOdd 40 = .ok (.iload_n 1, 1) := dec_0 oX9_findOdd (of27 _) rfl
theorem dX9_findOdd_41 : decode cX9_findOdd 41 = .ok (.aload_n 0, 1) := dec_0 oX9_findOdd (of42 _) rfl
theorem dX9_findOdd_42 : decode cX9_findOdd 42 = .ok (.getfield 101, 3) := dec_2 oX9_findOdd (of180 _) 0 101 rfl rfl
theorem dX9_findOdd_45 : decode cX9_findOdd 45 = .ok (.invokevirtual 54, 3) := dec_2 oX9_findOdd (of182 _) 0 54 rfl rfl
theorem dX9_findOdd_48 : decode cX9_findOdd 48 = .ok (.aload_n 0, 1) := dec_0 oX9_findOdd (of42 _) rfl
theorem dX9_findOdd_49 : decode cX9_findOdd 49 = .ok (.getfield 58, 3) := dec_2 oX9_findOdd (of180 _) 0 58 rfl rfl
theorem dX9_findOdd_52 : decode cX9_findOdd 52 = .ok (.ifCond .lt 27, 3) := dec_s2 oX9_findOdd (of155 _) 0 27 rfl (sg16p rfl) rfl
theorem dX9_findOdd_55 : decode cX9_findOdd 55 = .ok (.aload_n 0, 1) := dec_0 oX9_findOdd (of42 _) rfl
theorem dX9_findOdd_56 : decode cX9_findOdd 56 = .ok (.getfield 62, 3) := dec_2 oX9_findOdd (of180 _) 0 62 rfl rfl
theorem dX9_findOdd_59 : decode cX9_findOdd 59 = .ok (.aload_n 0, 1) := dec_0 oX9_findOdd (of42 _) rfl
theorem dX9_findOdd_60 : decode cX9_findOdd 60 = .ok (.getfield 101, 3) := dec_2 oX9_findOdd (of180 _) 0 101 rfl rfl
theorem dX9_findOdd_63 : decode cX9_findOdd 63 = .ok (.if_icmp .le 16, 3) := dec_s2 oX9_findOdd (of164 _) 0 16 rfl (sg16p rfl) rfl
theorem dX9_findOdd_66 : decode cX9_findOdd 66 = .ok (.aload_n 0, 1) := dec_0 oX9_findOdd (of42 _) rfl
theorem dX9_findOdd_67 : decode cX9_findOdd 67 = .ok (.iload_n 2, 1) := dec_0 oX9_findOdd (of28 _) rfl
theorem dX9_findOdd_68 : decode cX9_findOdd 68 = .ok (.putfield 98, 3) := dec_2 oX9_findOdd (of181 _) 0 98 rfl rfl
theorem dX9_findOdd_71 : decode cX9_findOdd 71 = .ok (.aload_n 0, 1) := dec_0 oX9_findOdd (of42 _) rfl
theorem dX9_findOdd_72 : decode cX9_findOdd 72 = .ok (.aload_n 0, 1) := dec_0 oX9_findOdd (of42 _) rfl
theorem dX9_findOdd_73 : decode cX9_findOdd 73 = .ok (.getfield 62, 3) := dec_2 oX9_findOdd (of180 _) 0 62 rfl rfl
theorem dX9_findOdd_76 : decode cX9_findOdd 76 = .ok (.putfield 101, 3) := dec_2 oX9_findOdd (of181 _) 0 101 rfl rfl
theorem dX10_byteAt_12 : decode cX10_byteAt 12 = .ok (.iload_n 1, 1) := dec_0 oX10_byteAt (of27 _) rfl
theorem dX10_byteAt_13 : decode cX10_byteAt 13 = .ok (.aload_n 0, 1) := dec_0 oX10_byteAt (of42 _) rfl
theorem dX10_byteAt_14 : decode cX10_byteAt 14 = .ok (.getfield 9, 3) := dec_2 oX10_byteAt (of180 _) 0 9 rfl rfl
theorem dX10_byteAt_17 : decode cX10_byteAt 17 = .ok (.arraylength, 1) := dec_0 oX10_byteAt (of190 _) rfl
theorem dX10_byteAt_18 : decode cX10_byteAt 18 = .ok (.if_icmp .ge 12, 3) := dec_s2 oX10_byteAt (of162 _) 0 12 rfl (sg16p rfl) rfl
theorem dX10_byteAt_21 : decode cX10_byteAt 21 = .ok (.aload_n 0, 1) := dec_0 oX10_byteAt (of42 _) rfl
theorem dX10_byteAt_22 : decode cX10_byteAt 22 = .ok (.getfield 9, 3) := dec_2 oX10_byteAt (of180 _) 0 9 rfl rfl
theorem dX10_byteAt_25 : decode cX10_byteAt 25 = .ok (.iload_n 1, 1) := dec_0 oX10_byteAt (of27 _) rfl
theorem dX10_byteAt_26 : decode cX10_byteAt 26 = .ok (.iaload, 1) := dec_0 oX10_byteAt (of46 _) rfl
theorem dX10_byteAt_27 : decode cX10_byteAt 27 = .ok (.goto 4, 3) := dec_s2 oX10_byteAt (of167 _) 0 4 rfl (sg16p rfl) rfl
theorem dX10_toNextToken_56 : decode cX10_toNextToken 56 = .ok (.iload_n 1, 1) := dec_0 oX10_toNextToken (of27 _) rfl
theorem dX10_toNextToken_57 : decode cX10_toNextToken 57 = .ok (.invokestatic 44, 3) := dec_2 oX10_toNextToken (of184 _) 0 44 rfl rfl
theorem dX10_toNextToken_60 : decode cX10_toNextToken 60 = .ok (.ifCond .eq 10, 3) := dec_s2 oX10_toNextToken (of153 _) 0 10 rfl (sg16p rfl) rfl
theorem dX10_toNextToken_63 : decode cX10_toNextToken 63 = .ok (.aload_n 0, 1) := dec_0 oX10_toNextToken (of42 _) rfl
theorem dX10_toNextToken_64 : decode cX10_toNextToken 64 = .ok (.invokevirtual 48, 3) := dec_2 oX10_toNextToken (of182 _) 0 48 rfl rfl
theorem dX10_toNextToken_67 : decode cX10_toNextToken 67 = .ok (.goto 52, 3) := dec_s2 oX10_toNextToken (of167 _) 0 52 rfl (sg16p rfl) rfl
theorem dX10_toNextToken_70 : decode cX10_toNextToken 70 = .ok (.iload_n 1, 1) := dec_0 oX10_toNextToken (of27 _) rfl
theorem dX10_toNextToken_71 : decode cX10_toNextToken 71 = .ok (.invokestatic 51, 3) := dec_2 oX10_toNextToken (of184 _) 0 51 rfl rfl
theorem dX10_toNextToken_74 : decode cX10_toNextToken 74 = .ok (.ifCond .eq 10, 3) := dec_s2 oX10_toNextToken (of153 _) 0 10 rfl (sg16p rfl) rfl
theorem dX10_toNextToken_77 : decode cX10_toNextToken 77 = .ok (.aload_n 0, 1) := dec_0 oX10_toNextToken (of42 _) rfl
theorem dX10_toNextToken_78 : decode cX10_toNextToken 78 = .ok (.invokevirtual 54, 3) := dec_2 oX10_toNextToken (of182 _) 0 54 rfl rfl
theorem dX10_toNextToken_81 : decode cX10_toNextToken 81 = .ok (.goto 38, 3) := dec_s2 oX10_toNextToken (of167 _) 0 38 rfl (sg16p rfl) rfl
theorem dX10_toNextToken_84 : decode cX10_toNextToken 84 = .ok (.aload_n 0, 1) := dec_0 oX10_toNextToken (of42 _) rfl
theorem dX10_toNextToken_85 : decode cX10_toNextToken 85 = .ok (.aload_n 0, 1) := dec_0 oX10_toNextToken (of42 _) rfl
theorem dX10_toNextToken_86 : decode cX10_toNextToken 86 = .ok (.getfield 32, 3) := dec_2 oX10_toNextToken (of180 _) 0 32 rfl rfl
theorem dX10_toNextToken_89 : decode cX10_toNextToken 89 = .ok (.iconst 1, 1) := dec_0 oX10_toNextToken (of4 _) rfl
theorem dX10_toNextToken_90 : decode cX10_toNextToken 90 = .ok (.iadd, 1) := dec_0 oX10_toNextToken (of96 _) rfl
theorem dX10_toNextToken_91 : decode cX10_toNextToken 91 = .ok (.putfield 19, 3) := dec_2 oX10_toNextToken (of181 _) 0 19 rfl rfl
theorem dX10_toNextToken_94 : decode cX10_toNextToken 94 = .ok (.aload_n 0, 1) := dec_0 oX10_toNextToken (of42 _) rfl
theorem dX10_toNextToken_95 : decode cX10_toNextToken 95 = .ok (.iload_n 1, 1) := dec_0 oX10_toNextToken (of27 _) rfl
theorem dX10_toNextToken_96 : decode cX10_toNextToken 96 = .ok (.bipush 59, 2) := dec_s1 oX10_toNextToken (of16 _) 59 rfl (sg8p rfl) rfl
theorem dX10_toNextToken_98 : decode cX10_toNextToken 98 = .ok (.if_icmp .ne 7, 3) := dec_s2 oX10_toNextToken (of160 _) 0 7 rfl (sg16p rfl) rfl
theorem dX10_toNextToken_101 : decode cX10_toNextToken 101 = .ok (.iconst 3, 1) := dec_0 oX10_toNextToken (of6 _) rfl
theorem dX10_toNextToken_102 : decode cX10_toNextToken 102 = .ok (.goto 14, 3) := dec_s2 oX10_toNextToken (of167 _) 0 14 rfl (sg16p rfl) rfl
theorem dX10_toNextToken_105 : decode cX10_toNextToken 105 = .ok (.iload_n 1, 1) := dec_0 oX10_toNextToken (of27 _) rfl
theorem dX10_toNextToken_106 : decode cX10_toNextToken 106 = .ok (.bipush 45, 2) := dec_s1 oX10_toNextToken (of16 _) 45 rfl (sg8p rfl) rfl
theorem dX10_toNextToken_108 : decode cX10_toNextToken 108 = .ok (.if_icmp .ne 7, 3) := dec_s2 oX10_toNextToken (of160 _) 0 7 rfl (sg16p rfl) rfl
theorem dX10_toNextToken_111 : decode cX10_toNextToken 111 = .ok (.iconst 4, 1) := dec_0 oX10_toNextToken (of7 _) rfl
theorem dX10_toNextToken_112 : decode cX10_toNextToken 112 = .ok (.goto 4, 3) := dec_s2 oX10_toNextToken (of167 _) 0 4 rfl (sg16p rfl) rfl
theorem dX10_toNextToken_115 : decode cX10_toNextToken 115 = .ok (.iconst 5, 1) := dec_0 oX10_toNextToken (of8 _) rfl
theorem dX10_toNextToken_116 : decode cX10_toNextToken 116 = .ok (.putfield 41, 3) := dec_2 oX10_toNextToken (of181 _) 0 41 rfl rfl
theorem dX10_behindBlanks_10 : decode cX10_behindBlanks 10 = .ok (.aload_n 0, 1) := dec_0 oX10_behindBlanks (of42 _) rfl
theorem dX10_behindBlanks_11 : decode cX10_behindBlanks 11 = .ok (.iload_n 2, 1) := dec_0 oX10_behindBlanks (of28 _) rfl
theorem dX10_behindBlanks_12 : decode cX10_behindBlanks 12 = .ok (.invokevirtual 38, 3) := dec_2 oX10_behindBlanks (of182 _) 0 38 rfl rfl
theorem dX10_behindBlanks_15 : decode cX10_behindBlanks 15 = .ok (.istore_n 3, 1) := dec_0 oX10_behindBlanks (of62 _) rfl
theorem dX10_behindBlanks_16 : decode cX10_behindBlanks 16 = .ok (.iload_n 3, 1) := dec_0 oX10_behindBlanks (of29 _) rfl
theorem dX10_behindBlanks_17 : decode cX10_behindBlanks 17 = .ok (.bipush 9, 2) := dec_s1 oX10_behindBlanks (of16 _) 9 rfl (sg8p rfl) rfl
theorem dX10_behindBlanks_19 : decode cX10_behindBlanks 19 = .ok (.if_icmp .eq 23, 3) := dec_s2 oX10_behindBlanks (of159 _) 0 23 rfl (sg16p rfl) rfl
theorem dX10_behindBlanks_22 : decode cX10_behindBlanks 22 = .ok (.iload_n 3, 1) := dec_0 oX10_behindBlanks (of29 _) rfl
theorem dX10_behindBlanks_23 : decode cX10_behindBlanks 23 = .ok (.bipush 10, 2) := dec_s1 oX10_behindBlanks (of16 _) 10 rfl (sg8p rfl) rfl
theorem dX10_behindBlanks_25 : decode cX10_behindBlanks 25 = .ok (.if_icmp .eq 17, 3) := dec_s2 oX10_behindBlanks (of159 _) 0 17 rfl (sg16p rfl) rfl
theorem dX10_behindBlanks_28 : decode cX10_behindBlanks 28 = .ok (.iload_n 3, 1) := dec_0 oX10_behindBlanks (of29 _) rfl
theorem dX10_behindBlanks_29 : decode cX10_behindBlanks 29 = .ok (.bipush 13, 2) := dec_s1 oX10_behindBlanks (of16 _) 13 rfl (sg8p rfl) rfl
theorem dX10_behindBlanks_31 : decode cX10_behindBlanks 31 = .ok (.if_icmp .eq 11, 3) := dec_s2 oX10_behindBlanks (of159 _) 0 11 rfl (sg16p rfl) rfl
theorem dX10_behindBlanks_34 : decode cX10_behindBlanks 34 = .ok (.iload_n 3, 1) := dec_0 oX10_behindBlanks (of29 _) rfl
theorem dX10_behindBlanks_35 : decode cX10_behindBlanks 35 = .ok (.bipush 32, 2) := dec_s1 oX10_behindBlanks (of16 _) 32 rfl (sg8p rfl) rfl
theorem dX10_behindBlanks_37 : decode cX10_behindBlanks 37 = .ok (.if_icmp .eq 5, 3) := dec_s2 oX10_behindBlanks (of159 _) 0 5 rfl (sg16p rfl) rfl
theorem dX10_behindBlanks_40 : decode cX10_behindBlanks 40 = .ok (.iload_n 2, 1) := dec_0 oX10_behindBlanks (of28 _) rfl
theorem dX10_behindBlanks_41 : decode cX10_behindBlanks 41 = .ok (.ireturn, 1) := dec_0 oX10_behindBlanks (of172 _) rfl
theorem dX10_behindBlanks_42 : decode cX10_behindBlanks 42 = .ok (.iinc 2 1, 3) := dec_ii oX10_behindBlanks (of132 _) 2 1 rfl (sg8p rfl) rfl
theorem dX10_behindBlanks_45 : decode cX10_behindBlanks 45 = .ok (.goto (-43), 3) := dec_s2 oX10_behindBlanks (of167 _) 255 213 rfl (sg16n (k := 43) rfl) rfl
theorem dX10_isLetter_0 : decode cX10_isLetter 0 = .ok (.iload_n 0, 1) := dec_0 oX10_isLetter (of26 _) rfl
theorem dX10_isLetter_1 : decode cX10_isLetter 1 = .ok (.bipush 97, 2) := dec_s1 oX10_isLetter (of16 _) 97 rfl (sg8p rfl) rfl
theorem dX10_isLetter_3 : decode cX10_isLetter 3 = .ok (.if_icmp .lt 13, 3) := dec_s2 oX10_isLetter (of161 _) 0 13 rfl (sg16p rfl) rfl
theorem dX10_isLetter_6 : decode cX10_isLetter 6 = .ok (.iload_n 0, 1) := dec_0 oX10_isLetter (of26 _) rfl
theorem dX10_isLetter_7 : decode cX10_isLetter 7 = .ok (.bipush 122, 2) := dec_s1 oX10_isLetter (of16 _) 122 rfl (sg8p rfl) rfl
theorem dX10_isLetter_9 : decode cX10_isLetter 9 = .ok (.if_icmp .gt 7, 3) := dec_s2 oX10_isLetter (of163 _) 0 7 rfl (sg16p rfl) rfl
theorem dX10_isLetter_12 : decode cX10_isLetter 12 = .ok (.iconst 1, 1) := dec_0 oX10_isLetter (of4 _) rfl
theorem dX10_isLetter_13 : decode cX10_isLetter 13 = .ok (.goto 4, 3) := dec_s2 oX10_isLetter (of167 _) 0 4 rfl (sg16p rfl) rfl
theorem dX10_isLetter_16 : decode cX10_isLetter 16 = .ok (.iconst 0, 1) := dec_0 oX10_isLetter (of3 _) rfl
theorem dX10_isLetter_17 : decode cX10_isLetter 17 = .ok (.ireturn, 1) := dec_0 oX10_isLetter (of172 _) rfl
theorem dX10_isDigit_0 : decode cX10_isDigit 0 = .ok (.iload_n 0, 1) := dec_0 oX10_isDigit (of26 _) rfl
theorem dX10_isDigit_1 : decode cX10_isDigit 1 = .ok (.bipush 48, 2) := dec_s1 oX10_isDigit (of16 _) 48 rfl (sg8p rfl) rfl
theorem dX10_isDigit_3 : decode cX10_isDigit 3 = .ok (.if_icmp .lt 13, 3) := dec_s2 oX10_isDigit (of161 _) 0 13 rfl (sg16p rfl) rfl
theorem dX10_isDigit_6 : decode cX10_isDigit 6 = .ok (.iload_n 0, 1) := dec_0 oX10_isDigit (of26 _) rfl
theorem dX10_isDigit_7 : decode cX10_isDigit 7 = .ok (.bipush 57, 2) := dec_s1 oX10_isDigit (of16 _) 57 rfl (sg8p rfl) rfl
theorem dX10_isDigit_9 : decode cX10_isDigit 9 = .ok (.if_icmp .gt 7, 3) := dec_s2 oX10_isDigit (of163 _) 0 7 rfl (sg16p rfl) rfl
theorem dX10_isDigit_12 : decode cX10_isDigit 12 = .ok (.iconst 1, 1) := dec_0 oX10_isDigit (of4 _) rfl
theorem dX10_isDigit_13 : decode cX10_isDigit 13 = .ok (.goto 4, 3) := dec_s2 oX10_isDigit (of167 _) 0 4 rfl (sg16p rfl) rfl
theorem dX10_isDigit_16 : decode cX10_isDigit 16 = .ok (.iconst 0, 1) := dec_0 oX10_isDigit (of3 _) rfl
theorem dX10_isDigit_17 : decode cX10_isDigit 17 = .ok (.ireturn, 1) := dec_0 oX10_isDigit (of172 _) rfl
theorem dX10_takeLetters_0 : decode cX10_takeLetters 0 = .ok (.aload_n 0, 1) := dec_0 oX10_takeLetters (of42 _) rfl
theorem dX10_takeLetters_1 : decode cX10_takeLetters 1 = .ok (.getfield 32, 3) := dec_2 oX10_takeLetters (of180 _) 0 32 rfl rfl
theorem dX10_takeLetters_4 : decode cX10_takeLetters 4 = .ok (.istore_n 1, 1) := dec_0 oX10_takeLetters (of60 _) rfl
theorem dX10_takeLetters_5 : decode cX10_takeLetters 5 = .ok (.iload_n 1, 1) := dec_0 oX10_takeLetters (of27 _) rfl
theorem dX10_takeLetters_6 : decode cX10_takeLetters 6 = .ok (.aload_n 0, 1) := dec_0 oX10_takeLetters (of42 _) rfl
theorem dX10_takeLetters_7 : decode cX10_takeLetters 7 = .ok (.getfield 15, 3) := dec_2 oX10_takeLetters (of180 _) 0 15 rfl rfl
theorem dX10_takeLetters_10 : decode cX10_takeLetters 10 = .ok (.if_icmp .ge 20, 3) := dec_s2 oX10_takeLetters (of162 _) 0 20 rfl (sg16p rfl) rfl
theorem dX10_takeLetters_13 : decode cX10_takeLetters 13 = .ok (.aload_n 0, 1) := dec_0 oX10_takeLetters (of42 _) rfl
theorem dX10_takeLetters_14 : decode cX10_takeLetters 14 = .ok (.iload_n 1, 1) := dec_0 oX10_takeLetters (of27 _) rfl
theorem dX10_takeLetters_15 : decode cX10_takeLetters 15 = .ok (.invokevirtual 38, 3) := dec_2 oX10_takeLetters (of182 _) 0 38 rfl rfl
theorem dX10_takeLetters_18 : decode cX10_takeLetters 18 = .ok (.invokestatic 44, 3) := dec_2 oX10_takeLetters (of184 _) 0 44 rfl rfl
theorem dX10_takeLetters_21 : decode cX10_takeLetters 21 = .ok (.ifCond .eq 9, 3) := dec_s2 oX10_takeLetters (of153 _) 0 9 rfl (sg16p rfl) rfl
theorem dX10_takeLetters_24 : decode cX10_takeLetters 24 = .ok (.iinc 1 1, 3) := dec_ii oX10_takeLetters (of132 _) 1 1 rfl (sg8p rfl) rfl
theorem dX10_takeLetters_27 : decode cX10_takeLetters 27 = .ok (.goto (-22), 3) := dec_s2 oX10_takeLetters (of167 _) 255 234 rfl (sg16n (k := 22) rfl) rfl
theorem dX10_takeLetters_30 : decode cX10_takeLetters 30 = .ok (.aload_n 0, 1) := dec_0 oX10_takeLetters (of42 _) rfl
theorem dX10_takeLetters_31 : decode cX10_takeLetters 31 = .ok (.iload_n 1, 1) := dec_0 oX10_takeLetters (of27 _) rfl
theorem dX10_takeLetters_32 : decode cX10_takeLetters 32 = .ok (.putfield 19, 3) := dec_2 oX10_takeLetters (of181 _) 0 19 rfl rfl
theorem dX10_takeLetters_35 : decode cX10_takeLetters 35 = .ok (.aload_n 0, 1) := dec_0 oX10_takeLetters (of42 _) rfl
theorem dX10_takeLetters_36 : decode cX10_takeLetters 36 = .ok (.aload_n 0, 1) := dec_0 oX10_takeLetters (of42 _) rfl
theorem dX10_takeLetters_37 : decode cX10_takeLetters 37 = .ok (.getfield 19, 3) := dec_2 oX10_takeLetters (of180 _) 0 19 rfl rfl
theorem dX10_takeLetters_40 : decode cX10_takeLetters 40 = .ok (.aload_n 0, 1) := dec_0 oX10_takeLetters (of42 _) rfl
theorem dX10_takeLetters_41 : decode cX10_takeLetters 41 = .ok (.getfield 32, 3) := dec_2 oX10_takeLetters (of180 _) 0 32 rfl rfl
theorem dX10_takeLetters_44 : decode cX10_takeLetters 44 = .ok (.isub, 1) := dec_0 oX10_takeLetters (of100 _) rfl
theorem dX10_takeLetters_45 : decode cX10_takeLetters 45 = .ok (.bipush 8, 2) := dec_s1 oX10_takeLetters (of16 _) 8 rfl (sg8p rfl) rfl
theorem dX10_takeLetters_47 : decode cX10_takeLetters 47 = .ok (.if_icmp .gt 7, 3) := dec_s2 oX10_takeLetters (of163 _) 0 7 rfl (sg16p rfl) rfl
theorem dX10_takeLetters_50 : decode cX10_takeLetters 50 = .ok (.iconst 1, 1) := dec_0 oX10_takeLetters (of4 _) rfl
theorem dX10_takeLetters_51 : decode cX10_takeLetters 51 = .ok (.goto 4, 3) := dec_s2 oX10_takeLetters (of167 _) 0 4 rfl (sg16p rfl) rfl
theorem dX10_takeLetters_54 : decode cX10_takeLetters 54 = .ok (.iconst 5, 1) := dec_0 oX10_takeLetters (of8 _) rfl
theorem dX10_takeLetters_55 : decode cX10_takeLetters 55 = .ok (.putfield 41, 3) := dec_2 oX10_takeLetters (of181 _) 0 41 rfl rfl
theorem dX10_takeLetters_58 : decode cX10_takeLetters 58 = .ok (.return_, 1) := dec_0 oX10_takeLetters (of177 _) rfl
theorem dX10_takeDigits_0 : decode cX10_takeDigits 0 = .ok (.aload_n 0, 1) := dec_0 oX10_takeDigits (of42 _) rfl
theorem dX10_takeDigits_1 : decode cX10_takeDigits 1 = .ok (.getfield 32, 3) := dec_2 oX10_takeDigits (of180 _) 0 32 rfl rfl
theorem dX10_takeDigits_4 : decode cX10_takeDigits 4 = .ok (.istore_n 1, 1) := dec_0 oX10_takeDigits (of60 _) rfl
theorem dX10_takeDigits_5 : decode cX10_takeDigits 5 = .ok (.iload_n 1, 1) := dec_0 oX10_takeDigits (of27 _) rfl
theorem dX10_takeDigits_6 : decode cX10_takeDigits 6 = .ok (.aload_n 0, 1) := dec_0 oX10_takeDigits (of42 _) rfl
theorem dX10_takeDigits_7 : decode cX10_takeDigits 7 = .ok (.getfield 15, 3) := dec_2 oX10_takeDigits (of180 _) 0 15 rfl rfl
theorem dX10_takeDigits_10 : decode cX10_takeDigits 10 = .ok (.if_icmp .ge 40, 3) := dec_s2 oX10_takeDigits (of162 _) 0 40 rfl (sg16p rfl) rfl
theorem dX10_takeDigits_13 : decode cX10_takeDigits 13 = .ok (.aload_n 0, 1) := dec_0 oX10_takeDigits (of42 _) rfl
theorem dX10_takeDigits_14 : decode cX10_takeDigits 14 = .ok (.iload_n 1, 1) := dec_0 oX10_takeDigits (of27 _) rfl
theorem dX10_takeDigits_15 : decode cX10_takeDigits 15 = .ok (.invokevirtual 38, 3) := dec_2 oX10_takeDigits (of182 _) 0 38 rfl rfl
theorem dX10_takeDigits_18 : decode cX10_takeDigits 18 = .ok (.invokestatic 51, 3) := dec_2 oX10_takeDigits (of184 _) 0 51 rfl rfl
theorem dX10_takeDigits_21 : decode cX10_takeDigits 21 = .ok (.ifCond .eq 29, 3) := dec_s2 oX10_takeDigits (of153 _) 0 29 rfl (sg16p rfl) rfl
theorem dX10_takeDigits_24 : decode cX10_takeDigits 24 = .ok (.aload_n 0, 1) := dec_0 oX10_takeDigits (of42 _) rfl
theorem dX10_takeDigits_25 : decode cX10_takeDigits 25 = .ok (.aload_n 0, 1) := dec_0 oX10_takeDigits (of42 _) rfl
theorem dX10_takeDigits_26 : decode cX10_takeDigits 26 = .ok (.getfield 35, 3) := dec_2 oX10_takeDigits (of180 _) 0 35 rfl rfl
theorem dX10_takeDigits_29 : decode cX10_takeDigits 29 = .ok (.bipush 10, 2) := dec_s1 oX10_takeDigits (of16 _) 10 rfl (sg8p rfl) rfl
theorem dX10_takeDigits_31 : decode cX10_takeDigits 31 = .ok (.imul, 1) := dec_0 oX10_takeDigits (of104 _) rfl
theorem dX10_takeDigits_32 : decode cX10_takeDigits 32 = .ok (.aload_n 0, 1) := dec_0 oX10_takeDigits (of42 _) rfl
theorem dX10_takeDigits_33 : decode cX10_takeDigits 33 = .ok (.iload_n 1, 1) := dec_0 oX10_takeDigits (of27 _) rfl
theorem dX10_takeDigits_34 : decode cX10_takeDigits 34 = .ok (.invokevirtual 38, 3) := dec_2 oX10_takeDigits (of182 _) 0 38 rfl rfl
theorem dX10_takeDigits_37 : decode cX10_takeDigits 37 = .ok (.iadd, 1) := dec_0 oX10_takeDigits (of96 _) rfl
theorem dX10_takeDigits_38 : decode cX10_takeDigits 38 = .ok (.bipush 48, 2) := dec_s1 oX10_takeDigits (of16 _) 48 rfl (sg8p rfl) rfl
theorem dX10_takeDigits_40 : decode cX10_takeDigits 40 = .ok (.isub, 1) := dec_0 oX10_takeDigits (of100 _) rfl
theorem dX10_takeDigits_41 : decode cX10_takeDigits 41 = .ok (.putfield 35, 3) := dec_2 oX10_takeDigits (of181 _) 0 35 rfl rfl
theorem dX10_takeDigits_44 : decode cX10_takeDigits 44 = .ok (.iinc 1 1, 3) := dec_ii oX10_takeDigits (of132 _) 1 1 rfl (sg8p rfl) rfl
theorem dX10_takeDigits_47 : decode cX10_takeDigits 47 = .ok (.goto (-42), 3) := dec_s2 oX10_takeDigits (of167 _) 255 214 rfl (sg16n (k := 42) rfl) rfl
theorem dX10_takeDigits_50 : decode cX10_takeDigits 50 = .ok (.aload_n 0, 1) := dec_0 oX10_takeDigits (of42 _) rfl
theorem dX10_takeDigits_51 : decode cX10_takeDigits 51 = .ok (.iload_n 1, 1) := dec_0 oX10_takeDigits (of27 _) rfl
theorem dX10_takeDigits_52 : decode cX10_takeDigits 52 = .ok (.putfield 19, 3) := dec_2 oX10_takeDigits (of181 _) 0 19 rfl rfl
theorem dX10_takeDigits_55 : decode cX10_takeDigits 55 = .ok (.aload_n 0, 1) := dec_0 oX10_takeDigits (of42 _) rfl
theorem dX10_takeDigits_56 : decode cX10_takeDigits 56 = .ok (.aload_n 0, 1) := dec_0 oX10_takeDigits (of42 _) rfl
theorem dX10_takeDigits_57 : decode cX10_takeDigits 57 = .ok (.getfield 19, 3) := dec_2 oX10_takeDigits (of180 _) 0 19 rfl rfl
theorem dX10_takeDigits_60 : decode cX10_takeDigits 60 = .ok (.aload_n 0, 1) := dec_0 oX10_takeDigits (of42 _) rfl
theorem dX10_takeDigits_61 : decode cX10_takeDigits 61 = .ok (.getfield 32, 3) := dec_2 oX10_takeDigits (of180 _) 0 32 rfl rfl
theorem dX10_takeDigits_64 : decode cX10_takeDigits 64 = .ok (.isub, 1) := dec_0 oX10_takeDigits (of100 _) rfl
theorem dX10_takeDigits_65 : decode cX10_takeDigits 65 = .ok (.iconst 4, 1) := dec_0 oX10_takeDigits (of7 _) rfl
theorem dX10_takeDigits_66 : decode cX10_takeDigits 66 = .ok (.if_icmp .gt 7, 3) := dec_s2 oX10_takeDigits (of163 _) 0 7 rfl (sg16p rfl) rfl
theorem dX10_takeDigits_69 : decode cX10_takeDigits 69 = .ok (.iconst 2, 1) := dec_0 oX10_takeDigits (of5 _) rfl
theorem dX10_takeDigits_70 : decode cX10_takeDigits 70 = .ok (.goto 4, 3) := dec_s2 oX10_takeDigits (of167 _) 0 4 rfl (sg16p rfl) rfl
theorem dX10_takeDigits_73 : decode cX10_takeDigits 73 = .ok (.iconst 5, 1) := dec_0 oX10_takeDigits (of8 _) rfl
theorem dX10_takeDigits_74 : decode cX10_takeDigits 74 = .ok (.putfield 41, 3) := dec_2 oX10_takeDigits (of181 _) 0 41 rfl rfl
theorem dX10_takeDigits_77 : decode cX10_takeDigits 77 = .ok (.return_, 1) := dec_0 oX10_takeDigits (of177 _) rfl
theorem dX10_lengthAtHand_0 : decode cX10_lengthAtHand 0 = .ok (.aload_n 0, 1) := dec_0 oX10_lengthAtHand (of42 _) rfl
theorem dX10_lengthAtHand_1 : decode cX10_lengthAtHand 1 = .ok (.getfield 19, 3) := dec_2 oX10_lengthAtHand (of180 _) 0 19 rfl rfl
theorem dX10_lengthAtHand_4 : decode cX10_lengthAtHand 4 = .ok (.aload_n 0, 1) := dec_0 oX10_lengthAtHand (of42 _) rfl
theorem dX10_lengthAtHand_5 : decode cX10_lengthAtHand 5 = .ok (.getfield 32, 3) := dec_2 oX10_lengthAtHand (of180 _) 0 32 rfl rfl
theorem dX10_lengthAtHand_8 : decode cX10_lengthAtHand 8 = .ok (.isub, 1) := dec_0 oX10_lengthAtHand (of100 _) rfl
theorem dX10_lengthAtHand_9 : decode cX10_lengthAtHand 9 = .ok (.ireturn, 1) := dec_0 oX10_lengthAtHand (of172 _) rfl
theorem dX10_isWord_0 : decode cX10_isWord 0 = .ok (.aload_n 0, 1) := dec_0 oX10_isWord (of42 _) rfl
theorem dX10_isWord_1 : decode cX10_isWord 1 = .ok (.getfield 41, 3) := dec_2 oX10_isWord (of180 _) 0 41 rfl rfl
theorem dX10_isWord_4 : decode cX10_isWord 4 = .ok (.iconst 1, 1) := dec_0 oX10_isWord (of4 _) rfl
theorem dX10_isWord_5 : decode cX10_isWord 5 = .ok (.if_icmp .ne 14, 3) := dec_s2 oX10_isWord (of160 _) 0 14 rfl (sg16p rfl) rfl
theorem dX10_isWord_8 : decode cX10_isWord 8 = .ok (.aload_n 0, 1) := dec_0 oX10_isWord (of42 _) rfl
theorem dX10_isWord_9 : decode cX10_isWord 9 = .ok (.invokevirtual 57, 3) := dec_2 oX10_isWord (of182 _) 0 57 rfl rfl
theorem dX10_isWord_12 : decode cX10_isWord 12 = .ok (.aload_n 1, 1) := dec_0 oX10_isWord (of43 _) rfl
theorem dX10_isWord_13 : decode cX10_isWord 13 = .ok (.invokevirtual 61, 3) := dec_2 oX10_isWord (of182 _) 0 61 rfl rfl
theorem dX10_isWord_16 : decode cX10_isWord 16 = .ok (.if_icmp .eq 5, 3) := dec_s2 oX10_isWord (of159 _) 0 5 rfl (sg16p rfl) rfl
theorem dX10_isWord_19 : decode cX10_isWord 19 = .ok (.iconst 0, 1) := dec_0 oX10_isWord (of3 _) rfl
theorem dX10_isWord_20 : decode cX10_isWord 20 = .ok (.ireturn, 1) := dec_0 oX10_isWord (of172 _) rfl
theorem dX10_isWord_21 : decode cX10_isWord 21 = .ok (.iconst 0, 1) := dec_0 oX10_isWord (of3 _) rfl
theorem dX10_isWord_22 : decode cX10_isWord 22 = .ok (.istore_n 2, 1) := dec_0 oX10_isWord (of61 _) rfl
theorem dX10_isWord_23 : decode cX10_isWord 23 = .ok (.iload_n 2, 1) := dec_0 oX10_isWord (of28 _) rfl
theorem dX10_isWord_24 : decode cX10_isWord 24 = .ok (.aload_n 1, 1) := dec_0 oX10_isWord (of43 _) rfl
theorem dX10_isWord_25 : decode cX10_isWord 25 = .ok (.invokevirtual 61, 3) := dec_2 oX10_isWord (of182 _) 0 61 rfl rfl
theorem dX10_isWord_28 : decode cX10_isWord 28 = .ok (.if_icmp .ge 29, 3) := dec_s2 oX10_isWord (of162 _) 0 29 rfl (sg16p rfl) rfl
theorem dX10_isWord_31 : decode cX10_isWord 31 = .ok (.aload_n 0, 1) := dec_0 oX10_isWord (of42 _) rfl
theorem dX10_isWord_32 : decode cX10_isWord 32 = .ok (.aload_n 0, 1) := dec_0 oX10_isWord (of42 _) rfl
theorem dX10_isWord_33 : decode cX10_isWord 33 = .ok (.getfield 32, 3) := dec_2 oX10_isWord (of180 _) 0 32 rfl rfl
theorem dX10_isWord_36 : decode cX10_isWord 36 = .ok (.iload_n 2, 1) := dec_0 oX10_isWord (of28 _) rfl
theorem dX10_isWord_37 : decode cX10_isWord 37 = .ok (.iadd, 1) := dec_0 oX10_isWord (of96 _) rfl
theorem dX10_isWord_38 : decode cX10_isWord 38 = .ok (.invokevirtual 38, 3) := dec_2 oX10_isWord (of182 _) 0 38 rfl rfl
theorem dX10_isWord_41 : decode cX10_isWord 41 = .ok (.aload_n 1, 1) := dec_0 oX10_isWord (of43 _) rfl
theorem dX10_isWord_42 : decode cX10_isWord 42 = .ok (.iload_n 2, 1) := dec_0 oX10_isWord (of28 _) rfl
theorem dX10_isWord_43 : decode cX10_isWord 43 = .ok (.invokevirtual 66, 3) := dec_2 oX10_isWord (of182 _) 0 66 rfl rfl
theorem dX10_isWord_46 : decode cX10_isWord 46 = .ok (.if_icmp .eq 5, 3) := dec_s2 oX10_isWord (of159 _) 0 5 rfl (sg16p rfl) rfl
theorem dX10_isWord_49 : decode cX10_isWord 49 = .ok (.iconst 0, 1) := dec_0 oX10_isWord (of3 _) rfl
theorem dX10_isWord_50 : decode cX10_isWord 50 = .ok (.ireturn, 1) := dec_0 oX10_isWord (of172 _) rfl
theorem dX10_isWord_51 : decode cX10_isWord 51 = .ok (.iinc 2 1, 3) := dec_ii oX10_isWord (of132 _) 2 1 rfl (sg8p rfl) rfl
theorem dX10_isWord_54 : decode cX10_isWord 54 = .ok (.goto (-31), 3) := dec_s2 oX10_isWord (of167 _) 255 225 rfl (sg16n (k := 31) rfl) rfl
theorem dX10_isWord_57 : decode cX10_isWord 57 = .ok (.iconst 1, 1) := dec_0 oX10_isWord (of4 _) rfl
