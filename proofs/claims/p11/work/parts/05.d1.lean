theorem dX2_spreadAll_21 : decode cX2_spreadAll 21 = .ok (.aload_n 1, 1) := dec_0 oX2_spreadAll (of43 _) rfl
theorem dX2_spreadAll_22 : decode cX2_spreadAll 22 = .ok (.iload 4, 2) := dec_1 oX2_spreadAll (of21 _) 4 rfl rfl
theorem dX2_spreadAll_24 : decode cX2_spreadAll 24 = .ok (.iaload, 1) := dec_0 oX2_spreadAll (of46 _) rfl
theorem dX2_spreadAll_25 : decode cX2_spreadAll 25 = .ok (.invokestatic 28, 3) := dec_2 oX2_spreadAll (of184 _) 0 28 rfl rfl
theorem dX2_spreadAll_28 : decode cX2_spreadAll 28 = .ok (.istore_n 2, 1) := dec_0 oX2_spreadAll (of61 _) rfl
theorem dX2_spreadAll_29 : decode cX2_spreadAll 29 = .ok (.iload_n 3, 1) := dec_0 oX2_spreadAll (of29 _) rfl
theorem dX2_spreadAll_30 : decode cX2_spreadAll 30 = .ok (.aload_n 1, 1) := dec_0 oX2_spreadAll (of43 _) rfl
theorem dX2_spreadAll_31 : decode cX2_spreadAll 31 = .ok (.iload 4, 2) := dec_1 oX2_spreadAll (of21 _) 4 rfl rfl
theorem dX2_spreadAll_33 : decode cX2_spreadAll 33 = .ok (.iaload, 1) := dec_0 oX2_spreadAll (of46 _) rfl
theorem dX2_spreadAll_34 : decode cX2_spreadAll 34 = .ok (.invokestatic 34, 3) := dec_2 oX2_spreadAll (of184 _) 0 34 rfl rfl
theorem dX2_spreadAll_37 : decode cX2_spreadAll 37 = .ok (.istore_n 3, 1) := dec_0 oX2_spreadAll (of62 _) rfl
theorem dX2_spreadAll_38 : decode cX2_spreadAll 38 = .ok (.iinc 4 1, 3) := dec_ii oX2_spreadAll (of132 _) 4 1 rfl (sg8p rfl) rfl
theorem dX2_spreadAll_41 : decode cX2_spreadAll 41 = .ok (.goto (-30), 3) := dec_s2 oX2_spreadAll (of167 _) 255 226 rfl (sg16n (k := 30) rfl) rfl
theorem dX2_spreadAll_44 : decode cX2_spreadAll 44 = .ok (.iload_n 3, 1) := dec_0 oX2_spreadAll (of29 _) rfl
theorem dX2_spreadAll_45 : decode cX2_spreadAll 45 = .ok (.iload_n 2, 1) := dec_0 oX2_spreadAll (of28 _) rfl
theorem dX2_spreadAll_46 : decode cX2_spreadAll 46 = .ok (.isub, 1) := dec_0 oX2_spreadAll (of100 _) rfl
theorem dX2_spreadAll_47 : decode cX2_spreadAll 47 = .ok (.istore 4, 2) := dec_1 oX2_spreadAll (of54 _) 4 rfl rfl
theorem dX2_spreadAll_49 : decode cX2_spreadAll 49 = .ok (.iconst 0, 1) := dec_0 oX2_spreadAll (of3 _) rfl
theorem dX2_spreadAll_50 : decode cX2_spreadAll 50 = .ok (.istore 5, 2) := dec_1 oX2_spreadAll (of54 _) 5 rfl rfl
theorem dX2_spreadAll_52 : decode cX2_spreadAll 52 = .ok (.iload 5, 2) := dec_1 oX2_spreadAll (of21 _) 5 rfl rfl
theorem dX2_spreadAll_54 : decode cX2_spreadAll 54 = .ok (.aload_n 0, 1) := dec_0 oX2_spreadAll (of42 _) rfl
theorem dX2_spreadAll_55 : decode cX2_spreadAll 55 = .ok (.getfield 24, 3) := dec_2 oX2_spreadAll (of180 _) 0 24 rfl rfl
theorem dX2_spreadAll_58 : decode cX2_spreadAll 58 = .ok (.if_icmp .ge 35, 3) := dec_s2 oX2_spreadAll (of162 _) 0 35 rfl (sg16p rfl) rfl
theorem dX2_spreadAll_61 : decode cX2_spreadAll 61 = .ok (.aload_n 1, 1) := dec_0 oX2_spreadAll (of43 _) rfl
theorem dX2_spreadAll_62 : decode cX2_spreadAll 62 = .ok (.iload 5, 2) := dec_1 oX2_spreadAll (of21 _) 5 rfl rfl
theorem dX2_spreadAll_64 : decode cX2_spreadAll 64 = .ok (.iload 4, 2) := dec_1 oX2_spreadAll (of21 _) 4 rfl rfl
theorem dX2_spreadAll_66 : decode cX2_spreadAll 66 = .ok (.ifCond .ne 7, 3) := dec_s2 oX2_spreadAll (of154 _) 0 7 rfl (sg16p rfl) rfl
theorem dX2_spreadAll_69 : decode cX2_spreadAll 69 = .ok (.iconst 0, 1) := dec_0 oX2_spreadAll (of3 _) rfl
theorem dX2_spreadAll_70 : decode cX2_spreadAll 70 = .ok (.goto 16, 3) := dec_s2 oX2_spreadAll (of167 _) 0 16 rfl (sg16p rfl) rfl
theorem dX2_spreadAll_73 : decode cX2_spreadAll 73 = .ok (.sipush 1000, 3) := dec_s2 oX2_spreadAll (of17 _) 3 232 rfl (sg16p rfl) rfl
theorem dX2_spreadAll_76 : decode cX2_spreadAll 76 = .ok (.aload_n 1, 1) := dec_0 oX2_spreadAll (of43 _) rfl
theorem dX2_spreadAll_77 : decode cX2_spreadAll 77 = .ok (.iload 5, 2) := dec_1 oX2_spreadAll (of21 _) 5 rfl rfl
theorem dX2_spreadAll_79 : decode cX2_spreadAll 79 = .ok (.iaload, 1) := dec_0 oX2_spreadAll (of46 _) rfl
theorem dX2_spreadAll_80 : decode cX2_spreadAll 80 = .ok (.iload_n 2, 1) := dec_0 oX2_spreadAll (of28 _) rfl
theorem dX2_spreadAll_81 : decode cX2_spreadAll 81 = .ok (.isub, 1) := dec_0 oX2_spreadAll (of100 _) rfl
theorem dX2_spreadAll_82 : decode cX2_spreadAll 82 = .ok (.imul, 1) := dec_0 oX2_spreadAll (of104 _) rfl
theorem dX2_spreadAll_83 : decode cX2_spreadAll 83 = .ok (.iload 4, 2) := dec_1 oX2_spreadAll (of21 _) 4 rfl rfl
theorem dX2_spreadAll_85 : decode cX2_spreadAll 85 = .ok (.idiv, 1) := dec_0 oX2_spreadAll (of108 _) rfl
theorem dX2_spreadAll_86 : decode cX2_spreadAll 86 = .ok (.iastore, 1) := dec_0 oX2_spreadAll (of79 _) rfl
theorem dX2_spreadAll_87 : decode cX2_spreadAll 87 = .ok (.iinc 5 1, 3) := dec_ii oX2_spreadAll (of132 _) 5 1 rfl (sg8p rfl) rfl
theorem dX2_spreadAll_90 : decode cX2_spreadAll 90 = .ok (.goto (-38), 3) := dec_s2 oX2_spreadAll (of167 _) 255 218 rfl (sg16n (k := 38) rfl) rfl
theorem dX2_spreadAll_93 : decode cX2_spreadAll 93 = .ok (.return_, 1) := dec_0 oX2_spreadAll (of177 _) rfl
theorem dX2_costOf_0 : decode cX2_costOf 0 = .ok (.iload_n 1, 1) := dec_0 oX2_costOf (of27 _) rfl
theorem dX2_costOf_1 : decode cX2_costOf 1 = .ok (.iload_n 2, 1) := dec_0 oX2_costOf (of28 _) rfl
theorem dX2_costOf_2 : decode cX2_costOf 2 = .ok (.isub, 1) := dec_0 oX2_costOf (of100 _) rfl
theorem dX2_costOf_3 : decode cX2_costOf 3 = .ok (.istore_n 3, 1) := dec_0 oX2_costOf (of62 _) rfl
theorem dX2_costOf_4 : decode cX2_costOf 4 = .ok (.aload_n 0, 1) := dec_0 oX2_costOf (of42 _) rfl
theorem dX2_costOf_5 : decode cX2_costOf 5 = .ok (.getfield 42, 3) := dec_2 oX2_costOf (of180 _) 0 42 rfl rfl
theorem dX2_costOf_8 : decode cX2_costOf 8 = .ok (.ifCond .eq 7, 3) := dec_s2 oX2_costOf (of153 _) 0 7 rfl (sg16p rfl) rfl
theorem dX2_costOf_11 : decode cX2_costOf 11 = .ok (.iload_n 3, 1) := dec_0 oX2_costOf (of29 _) rfl
theorem dX2_costOf_12 : decode cX2_costOf 12 = .ok (.iload_n 3, 1) := dec_0 oX2_costOf (of29 _) rfl
theorem dX2_costOf_13 : decode cX2_costOf 13 = .ok (.imul, 1) := dec_0 oX2_costOf (of104 _) rfl
theorem dX2_costOf_14 : decode cX2_costOf 14 = .ok (.ireturn, 1) := dec_0 oX2_costOf (of172 _) rfl
theorem dX2_costOf_15 : decode cX2_costOf 15 = .ok (.iload_n 3, 1) := dec_0 oX2_costOf (of29 _) rfl
theorem dX2_costOf_16 : decode cX2_costOf 16 = .ok (.ifCond .ge 8, 3) := dec_s2 oX2_costOf (of156 _) 0 8 rfl (sg16p rfl) rfl
theorem dX2_costOf_19 : decode cX2_costOf 19 = .ok (.iload_n 3, 1) := dec_0 oX2_costOf (of29 _) rfl
theorem dX2_costOf_20 : decode cX2_costOf 20 = .ok (.ineg, 1) := dec_0 oX2_costOf (of116 _) rfl
theorem dX2_costOf_21 : decode cX2_costOf 21 = .ok (.goto 4, 3) := dec_s2 oX2_costOf (of167 _) 0 4 rfl (sg16p rfl) rfl
theorem dX2_costOf_24 : decode cX2_costOf 24 = .ok (.iload_n 3, 1) := dec_0 oX2_costOf (of29 _) rfl
theorem dX2_costOf_25 : decode cX2_costOf 25 = .ok (.ireturn, 1) := dec_0 oX2_costOf (of172 _) rfl
theorem dX2_endsBound_0 : decode cX2_endsBound 0 = .ok (.aload_n 0, 1) := dec_0 oX2_endsBound (of42 _) rfl
theorem dX2_endsBound_1 : decode cX2_endsBound 1 = .ok (.getfield 24, 3) := dec_2 oX2_endsBound (of180 _) 0 24 rfl rfl
theorem dX2_endsBound_4 : decode cX2_endsBound 4 = .ok (.iconst 1, 1) := dec_0 oX2_endsBound (of4 _) rfl
theorem dX2_endsBound_5 : decode cX2_endsBound 5 = .ok (.isub, 1) := dec_0 oX2_endsBound (of100 _) rfl
theorem dX2_endsBound_6 : decode cX2_endsBound 6 = .ok (.istore_n 1, 1) := dec_0 oX2_endsBound (of60 _) rfl
theorem dX2_endsBound_7 : decode cX2_endsBound 7 = .ok (.aload_n 0, 1) := dec_0 oX2_endsBound (of42 _) rfl
theorem dX2_endsBound_8 : decode cX2_endsBound 8 = .ok (.aload_n 0, 1) := dec_0 oX2_endsBound (of42 _) rfl
theorem dX2_endsBound_9 : decode cX2_endsBound 9 = .ok (.getfield 9, 3) := dec_2 oX2_endsBound (of180 _) 0 9 rfl rfl
theorem dX2_endsBound_12 : decode cX2_endsBound 12 = .ok (.iconst 0, 1) := dec_0 oX2_endsBound (of3 _) rfl
theorem dX2_endsBound_13 : decode cX2_endsBound 13 = .ok (.iaload, 1) := dec_0 oX2_endsBound (of46 _) rfl
theorem dX2_endsBound_14 : decode cX2_endsBound 14 = .ok (.aload_n 0, 1) := dec_0 oX2_endsBound (of42 _) rfl
theorem dX2_endsBound_15 : decode cX2_endsBound 15 = .ok (.getfield 15, 3) := dec_2 oX2_endsBound (of180 _) 0 15 rfl rfl
theorem dX2_endsBound_18 : decode cX2_endsBound 18 = .ok (.iconst 0, 1) := dec_0 oX2_endsBound (of3 _) rfl
theorem dX2_endsBound_19 : decode cX2_endsBound 19 = .ok (.iaload, 1) := dec_0 oX2_endsBound (of46 _) rfl
theorem dX2_endsBound_20 : decode cX2_endsBound 20 = .ok (.invokevirtual 65, 3) := dec_2 oX2_endsBound (of182 _) 0 65 rfl rfl
theorem dX2_endsBound_23 : decode cX2_endsBound 23 = .ok (.aload_n 0, 1) := dec_0 oX2_endsBound (of42 _) rfl
theorem dX2_endsBound_24 : decode cX2_endsBound 24 = .ok (.aload_n 0, 1) := dec_0 oX2_endsBound (of42 _) rfl
theorem dX2_endsBound_25 : decode cX2_endsBound 25 = .ok (.getfield 9, 3) := dec_2 oX2_endsBound (of180 _) 0 9 rfl rfl
theorem dX2_endsBound_28 : decode cX2_endsBound 28 = .ok (.iload_n 1, 1) := dec_0 oX2_endsBound (of27 _) rfl
theorem dX2_endsBound_29 : decode cX2_endsBound 29 = .ok (.iaload, 1) := dec_0 oX2_endsBound (of46 _) rfl
theorem dX2_endsBound_30 : decode cX2_endsBound 30 = .ok (.aload_n 0, 1) := dec_0 oX2_endsBound (of42 _) rfl
theorem dX2_endsBound_31 : decode cX2_endsBound 31 = .ok (.getfield 15, 3) := dec_2 oX2_endsBound (of180 _) 0 15 rfl rfl
theorem dX2_endsBound_34 : decode cX2_endsBound 34 = .ok (.iload_n 1, 1) := dec_0 oX2_endsBound (of27 _) rfl
theorem dX2_endsBound_35 : decode cX2_endsBound 35 = .ok (.iaload, 1) := dec_0 oX2_endsBound (of46 _) rfl
theorem dX2_endsBound_36 : decode cX2_endsBound 36 = .ok (.invokevirtual 65, 3) := dec_2 oX2_endsBound (of182 _) 0 65 rfl rfl
theorem dX2_endsBound_39 : decode cX2_endsBound 39 = .ok (.iadd, 1) := dec_0 oX2_endsBound (of96 _) rfl
theorem dX2_endsBound_40 : decode cX2_endsBound 40 = .ok (.ireturn, 1) := dec_0 oX2_endsBound (of172 _) rfl
theorem dX2_overBound_0 : decode cX2_overBound 0 = .ok (.aload_n 0, 1) := dec_0 oX2_overBound (of42 _) rfl
theorem dX2_overBound_1 : decode cX2_overBound 1 = .ok (.aload_n 0, 1) := dec_0 oX2_overBound (of42 _) rfl
theorem dX2_overBound_2 : decode cX2_overBound 2 = .ok (.getfield 15, 3) := dec_2 oX2_overBound (of180 _) 0 15 rfl rfl
theorem dX2_overBound_5 : decode cX2_overBound 5 = .ok (.aload_n 0, 1) := dec_0 oX2_overBound (of42 _) rfl
theorem dX2_overBound_6 : decode cX2_overBound 6 = .ok (.getfield 9, 3) := dec_2 oX2_overBound (of180 _) 0 9 rfl rfl
theorem dX2_overBound_9 : decode cX2_overBound 9 = .ok (.invokevirtual 68, 3) := dec_2 oX2_overBound (of182 _) 0 68 rfl rfl
theorem dX2_overBound_12 : decode cX2_overBound 12 = .ok (.ireturn, 1) := dec_0 oX2_overBound (of172 _) rfl
theorem dX2_backBound_0 : decode cX2_backBound 0 = .ok (.aload_n 0, 1) := dec_0 oX2_backBound (of42 _) rfl
theorem dX2_backBound_1 : decode cX2_backBound 1 = .ok (.aload_n 0, 1) := dec_0 oX2_backBound (of42 _) rfl
theorem dX2_backBound_2 : decode cX2_backBound 2 = .ok (.getfield 9, 3) := dec_2 oX2_backBound (of180 _) 0 9 rfl rfl
theorem dX2_backBound_5 : decode cX2_backBound 5 = .ok (.aload_n 0, 1) := dec_0 oX2_backBound (of42 _) rfl
theorem dX2_backBound_6 : decode cX2_backBound 6 = .ok (.getfield 15, 3) := dec_2 oX2_backBound (of180 _) 0 15 rfl rfl
theorem dX2_backBound_9 : decode cX2_backBound 9 = .ok (.invokevirtual 68, 3) := dec_2 oX2_backBound (of182 _) 0 68 rfl rfl
theorem dX2_backBound_12 : decode cX2_backBound 12 = .ok (.ireturn, 1) := dec_0 oX2_backBound (of172 _) rfl
theorem dX2_envelopeBound_0 : decode cX2_envelopeBound 0 = .ok (.iconst 0, 1) := dec_0 oX2_envelopeBound (of3 _) rfl
theorem dX2_envelopeBound_1 : decode cX2_envelopeBound 1 = .ok (.istore_n 3, 1) := dec_0 oX2_envelopeBound (of62 _) rfl
theorem dX2_envelopeBound_2 : decode cX2_envelopeBound 2 = .ok (.iconst 0, 1) := dec_0 oX2_envelopeBound (of3 _) rfl
theorem dX2_envelopeBound_3 : decode cX2_envelopeBound 3 = .ok (.istore 4, 2) := dec_1 oX2_envelopeBound (of54 _) 4 rfl rfl
theorem dX2_envelopeBound_5 : decode cX2_envelopeBound 5 = .ok (.iload 4, 2) := dec_1 oX2_envelopeBound (of21 _) 4 rfl rfl
theorem dX2_envelopeBound_7 : decode cX2_envelopeBound 7 = .ok (.aload_n 0, 1) := dec_0 oX2_envelopeBound (of42 _) rfl
theorem dX2_envelopeBound_8 : decode cX2_envelopeBound 8 = .ok (.getfield 24, 3) := dec_2 oX2_envelopeBound (of180 _) 0 24 rfl rfl
theorem dX2_envelopeBound_11 : decode cX2_envelopeBound 11 = .ok (.if_icmp .ge 30, 3) := dec_s2 oX2_envelopeBound (of162 _) 0 30 rfl (sg16p rfl) rfl
theorem dX2_envelopeBound_14 : decode cX2_envelopeBound 14 = .ok (.iload 4, 2) := dec_1 oX2_envelopeBound (of21 _) 4 rfl rfl
theorem dX2_envelopeBound_16 : decode cX2_envelopeBound 16 = .ok (.aload_n 1, 1) := dec_0 oX2_envelopeBound (of43 _) rfl
theorem dX2_envelopeBound_17 : decode cX2_envelopeBound 17 = .ok (.arraylength, 1) := dec_0 oX2_envelopeBound (of190 _) rfl
theorem dX2_envelopeBound_18 : decode cX2_envelopeBound 18 = .ok (.if_icmp .ge 23, 3) := dec_s2 oX2_envelopeBound (of162 _) 0 23 rfl (sg16p rfl) rfl
theorem dX2_envelopeBound_21 : decode cX2_envelopeBound 21 = .ok (.iload_n 3, 1) := dec_0 oX2_envelopeBound (of29 _) rfl
theorem dX2_envelopeBound_22 : decode cX2_envelopeBound 22 = .ok (.aload_n 0, 1) := dec_0 oX2_envelopeBound (of42 _) rfl
theorem dX2_envelopeBound_23 : decode cX2_envelopeBound 23 = .ok (.aload_n 1, 1) := dec_0 oX2_envelopeBound (of43 _) rfl
theorem dX2_envelopeBound_24 : decode cX2_envelopeBound 24 = .ok (.iload 4, 2) := dec_1 oX2_envelopeBound (of21 _) 4 rfl rfl
theorem dX2_envelopeBound_26 : decode cX2_envelopeBound 26 = .ok (.iaload, 1) := dec_0 oX2_envelopeBound (of46 _) rfl
theorem dX2_envelopeBound_27 : decode cX2_envelopeBound 27 = .ok (.aload_n 2, 1) := dec_0 oX2_envelopeBound (of44 _) rfl
theorem dX2_envelopeBound_28 : decode cX2_envelopeBound 28 = .ok (.iload 4, 2) := dec_1 oX2_envelopeBound (of21 _) 4 rfl rfl
theorem dX2_envelopeBound_30 : decode cX2_envelopeBound 30 = .ok (.invokevirtual 72, 3) := dec_2 oX2_envelopeBound (of182 _) 0 72 rfl rfl
theorem dX2_envelopeBound_33 : decode cX2_envelopeBound 33 = .ok (.iadd, 1) := dec_0 oX2_envelopeBound (of96 _) rfl
theorem dX2_envelopeBound_34 : decode cX2_envelopeBound 34 = .ok (.istore_n 3, 1) := dec_0 oX2_envelopeBound (of62 _) rfl
theorem dX2_envelopeBound_35 : decode cX2_envelopeBound 35 = .ok (.iinc 4 1, 3) := dec_ii oX2_envelopeBound (of132 _) 4 1 rfl (sg8p rfl) rfl
theorem dX2_envelopeBound_38 : decode cX2_envelopeBound 38 = .ok (.goto (-33), 3) := dec_s2 oX2_envelopeBound (of167 _) 255 223 rfl (sg16n (k := 33) rfl) rfl
theorem dX2_envelopeBound_41 : decode cX2_envelopeBound 41 = .ok (.iload_n 3, 1) := dec_0 oX2_envelopeBound (of29 _) rfl
theorem dX2_envelopeBound_42 : decode cX2_envelopeBound 42 = .ok (.ireturn, 1) := dec_0 oX2_envelopeBound (of172 _) rfl
theorem dX2_outsideCost_0 : decode cX2_outsideCost 0 = .ok (.iconst 0, 1) := dec_0 oX2_outsideCost (of3 _) rfl
theorem dX2_outsideCost_1 : decode cX2_outsideCost 1 = .ok (.iload_n 3, 1) := dec_0 oX2_outsideCost (of29 _) rfl
theorem dX2_outsideCost_2 : decode cX2_outsideCost 2 = .ok (.aload_n 0, 1) := dec_0 oX2_outsideCost (of42 _) rfl
theorem dX2_outsideCost_3 : decode cX2_outsideCost 3 = .ok (.getfield 37, 3) := dec_2 oX2_outsideCost (of180 _) 0 37 rfl rfl
theorem dX2_outsideCost_6 : decode cX2_outsideCost 6 = .ok (.isub, 1) := dec_0 oX2_outsideCost (of100 _) rfl
theorem dX2_outsideCost_7 : decode cX2_outsideCost 7 = .ok (.invokestatic 34, 3) := dec_2 oX2_outsideCost (of184 _) 0 34 rfl rfl
theorem dX2_outsideCost_10 : decode cX2_outsideCost 10 = .ok (.istore 4, 2) := dec_1 oX2_outsideCost (of54 _) 4 rfl rfl
theorem dX2_outsideCost_12 : decode cX2_outsideCost 12 = .ok (.aload_n 0, 1) := dec_0 oX2_outsideCost (of42 _) rfl
theorem dX2_outsideCost_13 : decode cX2_outsideCost 13 = .ok (.getfield 24, 3) := dec_2 oX2_outsideCost (of180 _) 0 24 rfl rfl
theorem dX2_outsideCost_16 : decode cX2_outsideCost 16 = .ok (.iconst 1, 1) := dec_0 oX2_outsideCost (of4 _) rfl
theorem dX2_outsideCost_17 : decode cX2_outsideCost 17 = .ok (.isub, 1) := dec_0 oX2_outsideCost (of100 _) rfl
theorem dX2_outsideCost_18 : decode cX2_outsideCost 18 = .ok (.iload_n 3, 1) := dec_0 oX2_outsideCost (of29 _) rfl
theorem dX2_outsideCost_19 : decode cX2_outsideCost 19 = .ok (.aload_n 0, 1) := dec_0 oX2_outsideCost (of42 _) rfl
theorem dX2_outsideCost_20 : decode cX2_outsideCost 20 = .ok (.getfield 37, 3) := dec_2 oX2_outsideCost (of180 _) 0 37 rfl rfl
theorem dX2_outsideCost_23 : decode cX2_outsideCost 23 = .ok (.iadd, 1) := dec_0 oX2_outsideCost (of96 _) rfl
theorem dX2_outsideCost_24 : decode cX2_outsideCost 24 = .ok (.invokestatic 28, 3) := dec_2 oX2_outsideCost (of184 _) 0 28 rfl rfl
theorem dX2_outsideCost_27 : decode cX2_outsideCost 27 = .ok (.istore 5, 2) := dec_1 oX2_outsideCost (of54 _) 5 rfl rfl
theorem dX2_outsideCost_29 : decode cX2_outsideCost 29 = .ok (.aload_n 2, 1) := dec_0 oX2_outsideCost (of44 _) rfl
theorem dX2_outsideCost_30 : decode cX2_outsideCost 30 = .ok (.iload 4, 2) := dec_1 oX2_outsideCost (of21 _) 4 rfl rfl
theorem dX2_outsideCost_32 : decode cX2_outsideCost 32 = .ok (.iaload, 1) := dec_0 oX2_outsideCost (of46 _) rfl
theorem dX2_outsideCost_33 : decode cX2_outsideCost 33 = .ok (.istore 6, 2) := dec_1 oX2_outsideCost (of54 _) 6 rfl rfl
theorem dX2_outsideCost_35 : decode cX2_outsideCost 35 = .ok (.iload 6, 2) := dec_1 oX2_outsideCost (of21 _) 6 rfl rfl
theorem dX2_outsideCost_37 : decode cX2_outsideCost 37 = .ok (.istore 7, 2) := dec_1 oX2_outsideCost (of54 _) 7 rfl rfl
theorem dX2_outsideCost_39 : decode cX2_outsideCost 39 = .ok (.iload 4, 2) := dec_1 oX2_outsideCost (of21 _) 4 rfl rfl
theorem dX2_outsideCost_41 : decode cX2_outsideCost 41 = .ok (.iconst 1, 1) := dec_0 oX2_outsideCost (of4 _) rfl
theorem dX2_outsideCost_42 : decode cX2_outsideCost 42 = .ok (.iadd, 1) := dec_0 oX2_outsideCost (of96 _) rfl
theorem dX2_outsideCost_43 : decode cX2_outsideCost 43 = .ok (.istore 8, 2) := dec_1 oX2_outsideCost (of54 _) 8 rfl rfl
theorem dX2_outsideCost_45 : decode cX2_outsideCost 45 = .ok (.iload 8, 2) := dec_1 oX2_outsideCost (of21 _) 8 rfl rfl
theorem dX2_outsideCost_47 : decode cX2_outsideCost 47 = .ok (.iload 5, 2) := dec_1 oX2_outsideCost (of21 _) 5 rfl rfl
theorem dX2_outsideCost_49 : decode cX2_outsideCost 49 = .ok (.if_icmp .gt 40, 3) := dec_s2 oX2_outsideCost (of163 _) 0 40 rfl (sg16p rfl) rfl
theorem dX2_outsideCost_52 : decode cX2_outsideCost 52 = .ok (.aload_n 2, 1) := dec_0 oX2_outsideCost (of44 _) rfl
theorem dX2_outsideCost_53 : decode cX2_outsideCost 53 = .ok (.iload 8, 2) := dec_1 oX2_outsideCost (of21 _) 8 rfl rfl
theorem dX2_outsideCost_55 : decode cX2_outsideCost 55 = .ok (.iaload, 1) := dec_0 oX2_outsideCost (of46 _) rfl
theorem dX2_outsideCost_56 : decode cX2_outsideCost 56 = .ok (.istore 9, 2) := dec_1 oX2_outsideCost (of54 _) 9 rfl rfl
theorem dX2_outsideCost_58 : decode cX2_outsideCost 58 = .ok (.iload 9, 2) := dec_1 oX2_outsideCost (of21 _) 9 rfl rfl
theorem dX2_outsideCost_60 : decode cX2_outsideCost 60 = .ok (.iload 6, 2) := dec_1 oX2_outsideCost (of21 _) 6 rfl rfl
theorem dX2_outsideCost_62 : decode cX2_outsideCost 62 = .ok (.if_icmp .ge 10, 3) := dec_s2 oX2_outsideCost (of162 _) 0 10 rfl (sg16p rfl) rfl
theorem dX2_outsideCost_65 : decode cX2_outsideCost 65 = .ok (.iload 9, 2) := dec_1 oX2_outsideCost (of21 _) 9 rfl rfl
theorem dX2_outsideCost_67 : decode cX2_outsideCost 67 = .ok (.istore 6, 2) := dec_1 oX2_outsideCost (of54 _) 6 rfl rfl
theorem dX2_outsideCost_69 : decode cX2_outsideCost 69 = .ok (.goto 14, 3) := dec_s2 oX2_outsideCost (of167 _) 0 14 rfl (sg16p rfl) rfl
theorem dX2_outsideCost_72 : decode cX2_outsideCost 72 = .ok (.iload 9, 2) := dec_1 oX2_outsideCost (of21 _) 9 rfl rfl
theorem dX2_outsideCost_74 : decode cX2_outsideCost 74 = .ok (.iload 7, 2) := dec_1 oX2_outsideCost (of21 _) 7 rfl rfl
theorem dX2_outsideCost_76 : decode cX2_outsideCost 76 = .ok (.if_icmp .le 7, 3) := dec_s2 oX2_outsideCost (of164 _) 0 7 rfl (sg16p rfl) rfl
theorem dX2_outsideCost_79 : decode cX2_outsideCost 79 = .ok (.iload 9, 2) := dec_1 oX2_outsideCost (of21 _) 9 rfl rfl
theorem dX2_outsideCost_81 : decode cX2_outsideCost 81 = .ok (.istore 7, 2) := dec_1 oX2_outsideCost (of54 _) 7 rfl rfl
theorem dX2_outsideCost_83 : decode cX2_outsideCost 83 = .ok (.iinc 8 1, 3) := dec_ii oX2_outsideCost (of132 _) 8 1 rfl (sg8p rfl) rfl
theorem dX2_outsideCost_86 : decode cX2_outsideCost 86 = .ok (.goto (-41), 3) := dec_s2 oX2_outsideCost (of167 _) 255 215 rfl (sg16n (k := 41) rfl) rfl
theorem dX2_outsideCost_89 : decode cX2_outsideCost 89 = .ok (.iload_n 1, 1) := dec_0 oX2_outsideCost (of27 _) rfl
theorem dX2_outsideCost_90 : decode cX2_outsideCost 90 = .ok (.iload 7, 2) := dec_1 oX2_outsideCost (of21 _) 7 rfl rfl
theorem dX2_outsideCost_92 : decode cX2_outsideCost 92 = .ok (.if_icmp .le 11, 3) := dec_s2 oX2_outsideCost (of164 _) 0 11 rfl (sg16p rfl) rfl
theorem dX2_outsideCost_95 : decode cX2_outsideCost 95 = .ok (.aload_n 0, 1) := dec_0 oX2_outsideCost (of42 _) rfl
theorem dX2_outsideCost_96 : decode cX2_outsideCost 96 = .ok (.iload_n 1, 1) := dec_0 oX2_outsideCost (of27 _) rfl
theorem dX2_outsideCost_97 : decode cX2_outsideCost 97 = .ok (.iload 7, 2) := dec_1 oX2_outsideCost (of21 _) 7 rfl rfl
theorem dX2_outsideCost_99 : decode cX2_outsideCost 99 = .ok (.invokevirtual 65, 3) := dec_2 oX2_outsideCost (of182 _) 0 65 rfl rfl
theorem dX2_outsideCost_102 : decode cX2_outsideCost 102 = .ok (.ireturn, 1) := dec_0 oX2_outsideCost (of172 _) rfl
theorem dX2_outsideCost_103 : decode cX2_outsideCost 103 = .ok (.iload_n 1, 1) := dec_0 oX2_outsideCost (of27 _) rfl
theorem dX2_outsideCost_104 : decode cX2_outsideCost 104 = .ok (.iload 6, 2) := dec_1 oX2_outsideCost (of21 _) 6 rfl rfl
theorem dX2_outsideCost_106 : decode cX2_outsideCost 106 = .ok (.if_icmp .ge 13, 3) := dec_s2 oX2_outsideCost (of162 _) 0 13 rfl (sg16p rfl) rfl
theorem dX2_outsideCost_109 : decode cX2_outsideCost 109 = .ok (.aload_n 0, 1) := dec_0 oX2_outsideCost (of42 _) rfl
theorem dX2_outsideCost_110 : decode cX2_outsideCost 110 = .ok (.iload_n 1, 1) := dec_0 oX2_outsideCost (of27 _) rfl
theorem dX2_outsideCost_111 : decode cX2_outsideCost 111 = .ok (.iload 6, 2) := dec_1 oX2_outsideCost (of21 _) 6 rfl rfl
theorem dX2_outsideCost_113 : decode cX2_outsideCost 113 = .ok (.invokevirtual 65, 3) := dec_2 oX2_outsideCost (of182 _) 0 65 rfl rfl
theorem dX2_outsideCost_116 : decode cX2_outsideCost 116 = .ok (.goto 4, 3) := dec_s2 oX2_outsideCost (of167 _) 0 4 rfl (sg16p rfl) rfl
theorem dX2_outsideCost_119 : decode cX2_outsideCost 119 = .ok (.iconst 0, 1) := dec_0 oX2_outsideCost (of3 _) rfl
theorem dX2_outsideCost_120 : decode cX2_outsideCost 120 = .ok (.ireturn, 1) := dec_0 oX2_outsideCost (of172 _) rfl
theorem dX2_lookAt_0 : decode cX2_lookAt 0 = .ok (.aload_n 0, 1) := dec_0 oX2_lookAt (of42 _) rfl
theorem dX2_lookAt_1 : decode cX2_lookAt 1 = .ok (.iconst 0, 1) := dec_0 oX2_lookAt (of3 _) rfl
theorem dX2_lookAt_2 : decode cX2_lookAt 2 = .ok (.putfield 76, 3) := dec_2 oX2_lookAt (of181 _) 0 76 rfl rfl
theorem dX2_lookAt_5 : decode cX2_lookAt 5 = .ok (.aload_n 0, 1) := dec_0 oX2_lookAt (of42 _) rfl
theorem dX2_lookAt_6 : decode cX2_lookAt 6 = .ok (.bipush (-2), 2) := dec_s1 oX2_lookAt (of16 _) 254 rfl (sg8n (k := 2) rfl) rfl
theorem dX2_lookAt_8 : decode cX2_lookAt 8 = .ok (.putfield 79, 3) := dec_2 oX2_lookAt (of181 _) 0 79 rfl rfl
theorem dX2_lookAt_11 : decode cX2_lookAt 11 = .ok (.aload_n 0, 1) := dec_0 oX2_lookAt (of42 _) rfl
theorem dX2_lookAt_12 : decode cX2_lookAt 12 = .ok (.invokevirtual 82, 3) := dec_2 oX2_lookAt (of182 _) 0 82 rfl rfl
theorem dX2_lookAt_15 : decode cX2_lookAt 15 = .ok (.iload_n 1, 1) := dec_0 oX2_lookAt (of27 _) rfl
theorem dX2_lookAt_16 : decode cX2_lookAt 16 = .ok (.if_icmp .lt 5, 3) := dec_s2 oX2_lookAt (of161 _) 0 5 rfl (sg16p rfl) rfl
theorem dX2_lookAt_19 : decode cX2_lookAt 19 = .ok (.iconst 1, 1) := dec_0 oX2_lookAt (of4 _) rfl
theorem dX2_lookAt_20 : decode cX2_lookAt 20 = .ok (.ireturn, 1) := dec_0 oX2_lookAt (of172 _) rfl
theorem dX2_lookAt_21 : decode cX2_lookAt 21 = .ok (.aload_n 0, 1) := dec_0 oX2_lookAt (of42 _) rfl
theorem dX2_lookAt_22 : decode cX2_lookAt 22 = .ok (.aload_n 0, 1) := dec_0 oX2_lookAt (of42 _) rfl
theorem dX2_lookAt_23 : decode cX2_lookAt 23 = .ok (.getfield 15, 3) := dec_2 oX2_lookAt (of180 _) 0 15 rfl rfl
theorem dX2_lookAt_26 : decode cX2_lookAt 26 = .ok (.aload_n 0, 1) := dec_0 oX2_lookAt (of42 _) rfl
theorem dX2_lookAt_27 : decode cX2_lookAt 27 = .ok (.getfield 9, 3) := dec_2 oX2_lookAt (of180 _) 0 9 rfl rfl
theorem dX2_lookAt_30 : decode cX2_lookAt 30 = .ok (.invokevirtual 68, 3) := dec_2 oX2_lookAt (of182 _) 0 68 rfl rfl
theorem dX2_lookAt_33 : decode cX2_lookAt 33 = .ok (.iload_n 1, 1) := dec_0 oX2_lookAt (of27 _) rfl
theorem dX2_lookAt_34 : decode cX2_lookAt 34 = .ok (.if_icmp .lt 5, 3) := dec_s2 oX2_lookAt (of161 _) 0 5 rfl (sg16p rfl) rfl
theorem dX2_lookAt_37 : decode cX2_lookAt 37 = .ok (.iconst 2, 1) := dec_0 oX2_lookAt (of5 _) rfl
theorem dX2_lookAt_38 : decode cX2_lookAt 38 = .ok (.ireturn, 1) := dec_0 oX2_lookAt (of172 _) rfl
theorem dX2_lookAt_39 : decode cX2_lookAt 39 = .ok (.aload_n 0, 1) := dec_0 oX2_lookAt (of42 _) rfl
theorem dX2_lookAt_40 : decode cX2_lookAt 40 = .ok (.aload_n 0, 1) := dec_0 oX2_lookAt (of42 _) rfl
theorem dX2_lookAt_41 : decode cX2_lookAt 41 = .ok (.getfield 9, 3) := dec_2 oX2_lookAt (of180 _) 0 9 rfl rfl
theorem dX2_lookAt_44 : decode cX2_lookAt 44 = .ok (.aload_n 0, 1) := dec_0 oX2_lookAt (of42 _) rfl
theorem dX2_lookAt_45 : decode cX2_lookAt 45 = .ok (.getfield 15, 3) := dec_2 oX2_lookAt (of180 _) 0 15 rfl rfl
theorem dX2_lookAt_48 : decode cX2_lookAt 48 = .ok (.invokevirtual 68, 3) := dec_2 oX2_lookAt (of182 _) 0 68 rfl rfl
theorem dX2_lookAt_51 : decode cX2_lookAt 51 = .ok (.iload_n 1, 1) := dec_0 oX2_lookAt (of27 _) rfl
theorem dX2_lookAt_52 : decode cX2_lookAt 52 = .ok (.if_icmp .lt 5, 3) := dec_s2 oX2_lookAt (of161 _) 0 5 rfl (sg16p rfl) rfl
theorem dX2_lookAt_55 : decode cX2_lookAt 55 = .ok (.iconst 3, 1) := dec_0 oX2_lookAt (of6 _) rfl
theorem dX2_lookAt_56 : decode cX2_lookAt 56 = .ok (.ireturn, 1) := dec_0 oX2_lookAt (of172 _) rfl
theorem dX2_lookAt_57 : decode cX2_lookAt 57 = .ok (.aload_n 0, 1) := dec_0 oX2_lookAt (of42 _) rfl
theorem dX2_lookAt_58 : decode cX2_lookAt 58 = .ok (.iload_n 1, 1) := dec_0 oX2_lookAt (of27 _) rfl
theorem dX2_lookAt_59 : decode cX2_lookAt 59 = .ok (.invokevirtual 86, 3) := dec_2 oX2_lookAt (of182 _) 0 86 rfl rfl
theorem dX2_lookAt_62 : decode cX2_lookAt 62 = .ok (.aload_n 0, 1) := dec_0 oX2_lookAt (of42 _) rfl
theorem dX2_lookAt_63 : decode cX2_lookAt 63 = .ok (.getfield 79, 3) := dec_2 oX2_lookAt (of180 _) 0 79 rfl rfl
theorem dX2_lookAt_66 : decode cX2_lookAt 66 = .ok (.bipush (-2), 2) := dec_s1 oX2_lookAt (of16 _) 254 rfl (sg8n (k := 2) rfl) rfl
theorem dX2_lookAt_68 : decode cX2_lookAt 68 = .ok (.if_icmp .eq 5, 3) := dec_s2 oX2_lookAt (of159 _) 0 5 rfl (sg16p rfl) rfl
theorem dX2_lookAt_71 : decode cX2_lookAt 71 = .ok (.iconst 4, 1) := dec_0 oX2_lookAt (of7 _) rfl
theorem dX2_lookAt_72 : decode cX2_lookAt 72 = .ok (.ireturn, 1) := dec_0 oX2_lookAt (of172 _) rfl
theorem dX2_lookAt_73 : decode cX2_lookAt 73 = .ok (.aload_n 0, 1) := dec_0 oX2_lookAt (of42 _) rfl
theorem dX2_lookAt_74 : decode cX2_lookAt 74 = .ok (.invokevirtual 90, 3) := dec_2 oX2_lookAt (of182 _) 0 90 rfl rfl
theorem dX2_lookAt_77 : decode cX2_lookAt 77 = .ok (.iload_n 1, 1) := dec_0 oX2_lookAt (of27 _) rfl
theorem dX2_lookAt_78 : decode cX2_lookAt 78 = .ok (.if_icmp .lt 7, 3) := dec_s2 oX2_lookAt (of161 _) 0 7 rfl (sg16p rfl) rfl
theorem dX2_lookAt_81 : decode cX2_lookAt 81 = .ok (.iconst 5, 1) := dec_0 oX2_lookAt (of8 _) rfl
theorem dX2_lookAt_82 : decode cX2_lookAt 82 = .ok (.goto 4, 3) := dec_s2 oX2_lookAt (of167 _) 0 4 rfl (sg16p rfl) rfl
theorem dX2_lookAt_85 : decode cX2_lookAt 85 = .ok (.iconst 0, 1) := dec_0 oX2_lookAt (of3 _) rfl
theorem dX2_lookAt_86 : decode cX2_lookAt 86 = .ok (.ireturn, 1) := dec_0 oX2_lookAt (of172 _) rfl
theorem dX2_isLess_0 : decode cX2_isLess 0 = .ok (.aload_n 0, 1) := dec_0 oX2_isLess (of42 _) rfl
theorem dX2_isLess_1 : decode cX2_isLess 1 = .ok (.invokevirtual 82, 3) := dec_2 oX2_isLess (of182 _) 0 82 rfl rfl
theorem dX2_isLess_4 : decode cX2_isLess 4 = .ok (.iload_n 1, 1) := dec_0 oX2_isLess (of27 _) rfl
theorem dX2_isLess_5 : decode cX2_isLess 5 = .ok (.if_icmp .lt 5, 3) := dec_s2 oX2_isLess (of161 _) 0 5 rfl (sg16p rfl) rfl
theorem dX2_isLess_8 : decode cX2_isLess 8 = .ok (.iconst 0, 1) := dec_0 oX2_isLess (of3 _) rfl
theorem dX2_isLess_9 : decode cX2_isLess 9 = .ok (.ireturn, 1) := dec_0 oX2_isLess (of172 _) rfl
theorem dX2_isLess_10 : decode cX2_isLess 10 = .ok (.aload_n 0, 1) := dec_0 oX2_isLess (of42 _) rfl
theorem dX2_isLess_11 : decode cX2_isLess 11 = .ok (.iload_n 1, 1) := dec_0 oX2_isLess (of27 _) rfl
theorem dX2_isLess_12 : decode cX2_isLess 12 = .ok (.invokevirtual 86, 3) := dec_2 oX2_isLess (of182 _) 0 86 rfl rfl
theorem dX2_isLess_15 : decode cX2_isLess 15 = .ok (.aload_n 0, 1) := dec_0 oX2_isLess (of42 _) rfl
theorem dX2_isLess_16 : decode cX2_isLess 16 = .ok (.getfield 79, 3) := dec_2 oX2_isLess (of180 _) 0 79 rfl rfl
theorem dX2_isLess_19 : decode cX2_isLess 19 = .ok (.bipush (-2), 2) := dec_s1 oX2_isLess (of16 _) 254 rfl (sg8n (k := 2) rfl) rfl
theorem dX2_isLess_21 : decode cX2_isLess 21 = .ok (.if_icmp .ne 15, 3) := dec_s2 oX2_isLess (of160 _) 0 15 rfl (sg16p rfl) rfl
theorem dX2_isLess_24 : decode cX2_isLess 24 = .ok (.aload_n 0, 1) := dec_0 oX2_isLess (of42 _) rfl
theorem dX2_isLess_25 : decode cX2_isLess 25 = .ok (.invokevirtual 90, 3) := dec_2 oX2_isLess (of182 _) 0 90 rfl rfl
theorem dX2_isLess_28 : decode cX2_isLess 28 = .ok (.iload_n 1, 1) := dec_0 oX2_isLess (of27 _) rfl
theorem dX2_isLess_29 : decode cX2_isLess 29 = .ok (.if_icmp .ge 7, 3) := dec_s2 oX2_isLess (of162 _) 0 7 rfl (sg16p rfl) rfl
theorem dX2_isLess_32 : decode cX2_isLess 32 = .ok (.iconst 1, 1) := dec_0 oX2_isLess (of4 _) rfl
theorem dX2_isLess_33 : decode cX2_isLess 33 = .ok (.goto 4, 3) := dec_s2 oX2_isLess (of167 _) 0 4 rfl (sg16p rfl) rfl
theorem dX2_isLess_36 : decode cX2_isLess 36 = .ok (.iconst 0, 1) := dec_0 oX2_isLess (of3 _) rfl
theorem dX2_isLess_37 : decode cX2_isLess 37 = .ok (.ireturn, 1) := dec_0 oX2_isLess (of172 _) rfl
theorem dX2_wholeDistance_0 : decode cX2_wholeDistance 0 = .ok (.aload_n 0, 1) := dec_0 oX2_wholeDistance (of42 _) rfl
theorem dX2_wholeDistance_1 : decode cX2_wholeDistance 1 = .ok (.ldc 93, 2) := dec_1 oX2_wholeDistance (of18 _) 93 rfl rfl
theorem dX2_wholeDistance_3 : decode cX2_wholeDistance 3 = .ok (.invokevirtual 86, 3) := dec_2 oX2_wholeDistance (of182 _) 0 86 rfl rfl
theorem dX2_wholeDistance_6 : decode cX2_wholeDistance 6 = .ok (.aload_n 0, 1) := dec_0 oX2_wholeDistance (of42 _) rfl
theorem dX2_wholeDistance_7 : decode cX2_wholeDistance 7 = .ok (.invokevirtual 90, 3) := dec_2 oX2_wholeDistance (of182 _) 0 90 rfl rfl
theorem dX2_wholeDistance_10 : decode cX2_wholeDistance 10 = .ok (.ireturn, 1) := dec_0 oX2_wholeDistance (of172 _) rfl
theorem dX2_laidDistance_0 : decode cX2_laidDistance 0 = .ok (.aload_n 0, 1) := dec_0 oX2_laidDistance (of42 _) rfl
theorem dX2_laidDistance_1 : decode cX2_laidDistance 1 = .ok (.getfield 18, 3) := dec_2 oX2_laidDistance (of180 _) 0 18 rfl rfl
theorem dX2_laidDistance_4 : decode cX2_laidDistance 4 = .ok (.aload_n 0, 1) := dec_0 oX2_laidDistance (of42 _) rfl
theorem dX2_laidDistance_5 : decode cX2_laidDistance 5 = .ok (.getfield 24, 3) := dec_2 oX2_laidDistance (of180 _) 0 24 rfl rfl
theorem dX2_laidDistance_8 : decode cX2_laidDistance 8 = .ok (.iconst 1, 1) := dec_0 oX2_laidDistance (of4 _) rfl
theorem dX2_laidDistance_9 : decode cX2_laidDistance 9 = .ok (.isub, 1) := dec_0 oX2_laidDistance (of100 _) rfl
theorem dX2_laidDistance_10 : decode cX2_laidDistance 10 = .ok (.bipush 16, 2) := dec_s1 oX2_laidDistance (of16 _) 16 rfl (sg8p rfl) rfl
theorem dX2_laidDistance_12 : decode cX2_laidDistance 12 = .ok (.imul, 1) := dec_0 oX2_laidDistance (of104 _) rfl
theorem dX2_laidDistance_13 : decode cX2_laidDistance 13 = .ok (.aload_n 0, 1) := dec_0 oX2_laidDistance (of42 _) rfl
theorem dX2_laidDistance_14 : decode cX2_laidDistance 14 = .ok (.getfield 24, 3) := dec_2 oX2_laidDistance (of180 _) 0 24 rfl rfl
theorem dX2_laidDistance_17 : decode cX2_laidDistance 17 = .ok (.iadd, 1) := dec_0 oX2_laidDistance (of96 _) rfl
theorem dX2_laidDistance_18 : decode cX2_laidDistance 18 = .ok (.iconst 1, 1) := dec_0 oX2_laidDistance (of4 _) rfl
theorem dX2_laidDistance_19 : decode cX2_laidDistance 19 = .ok (.isub, 1) := dec_0 oX2_laidDistance (of100 _) rfl
theorem dX2_laidDistance_20 : decode cX2_laidDistance 20 = .ok (.iaload, 1) := dec_0 oX2_laidDistance (of46 _) rfl
theorem dX2_laidDistance_21 : decode cX2_laidDistance 21 = .ok (.ireturn, 1) := dec_0 oX2_laidDistance (of172 _) rfl
theorem dX2_layTable_0 : decode cX2_layTable 0 = .ok (.aload_n 0, 1) := dec_0 oX2_layTable (of42 _) rfl
theorem dX2_layTable_1 : decode cX2_layTable 1 = .ok (.iconst 0, 1) := dec_0 oX2_layTable (of3 _) rfl
theorem dX2_layTable_2 : decode cX2_layTable 2 = .ok (.putfield 76, 3) := dec_2 oX2_layTable (of181 _) 0 76 rfl rfl
theorem dX2_layTable_5 : decode cX2_layTable 5 = .ok (.aload_n 0, 1) := dec_0 oX2_layTable (of42 _) rfl
theorem dX2_layTable_6 : decode cX2_layTable 6 = .ok (.bipush (-2), 2) := dec_s1 oX2_layTable (of16 _) 254 rfl (sg8n (k := 2) rfl) rfl
theorem dX2_layTable_8 : decode cX2_layTable 8 = .ok (.putfield 79, 3) := dec_2 oX2_layTable (of181 _) 0 79 rfl rfl
theorem dX2_layTable_11 : decode cX2_layTable 11 = .ok (.iconst 0, 1) := dec_0 oX2_layTable (of3 _) rfl
theorem dX2_layTable_12 : decode cX2_layTable 12 = .ok (.istore_n 2, 1) := dec_0 oX2_layTable (of61 _) rfl
theorem dX2_layTable_13 : decode cX2_layTable 13 = .ok (.iload_n 2, 1) := dec_0 oX2_layTable (of28 _) rfl
theorem dX2_layTable_14 : decode cX2_layTable 14 = .ok (.aload_n 0, 1) := dec_0 oX2_layTable (of42 _) rfl
theorem dX2_layTable_15 : decode cX2_layTable 15 = .ok (.getfield 24, 3) := dec_2 oX2_layTable (of180 _) 0 24 rfl rfl
theorem dX2_layTable_18 : decode cX2_layTable 18 = .ok (.if_icmp .ge 24, 3) := dec_s2 oX2_layTable (of162 _) 0 24 rfl (sg16p rfl) rfl
theorem dX2_layTable_21 : decode cX2_layTable 21 = .ok (.aload_n 0, 1) := dec_0 oX2_layTable (of42 _) rfl
theorem dX2_layTable_22 : decode cX2_layTable 22 = .ok (.iload_n 2, 1) := dec_0 oX2_layTable (of28 _) rfl
theorem dX2_layTable_23 : decode cX2_layTable 23 = .ok (.invokevirtual 94, 3) := dec_2 oX2_layTable (of182 _) 0 94 rfl rfl
theorem dX2_layTable_26 : decode cX2_layTable 26 = .ok (.iload_n 1, 1) := dec_0 oX2_layTable (of27 _) rfl
theorem dX2_layTable_27 : decode cX2_layTable 27 = .ok (.if_icmp .lt 9, 3) := dec_s2 oX2_layTable (of161 _) 0 9 rfl (sg16p rfl) rfl
theorem dX2_layTable_30 : decode cX2_layTable 30 = .ok (.aload_n 0, 1) := dec_0 oX2_layTable (of42 _) rfl
theorem dX2_layTable_31 : decode cX2_layTable 31 = .ok (.iload_n 2, 1) := dec_0 oX2_layTable (of28 _) rfl
theorem dX2_layTable_32 : decode cX2_layTable 32 = .ok (.putfield 79, 3) := dec_2 oX2_layTable (of181 _) 0 79 rfl rfl
theorem dX2_layTable_35 : decode cX2_layTable 35 = .ok (.return_, 1) := dec_0 oX2_layTable (of177 _) rfl
theorem dX2_layTable_36 : decode cX2_layTable 36 = .ok (.iinc 2 1, 3) := dec_ii oX2_layTable (of132 _) 2 1 rfl (sg8p rfl) rfl
theorem dX2_layTable_39 : decode cX2_layTable 39 = .ok (.goto (-26), 3) := dec_s2 oX2_layTable (of167 _) 255 230 rfl (sg16n (k := 26) rfl) rfl
theorem dX2_layTable_42 : decode cX2_layTable 42 = .ok (.return_, 1) := dec_0 oX2_layTable (of177 _) rfl
theorem dX2_layRow_0 : decode cX2_layRow 0 = .ok (.iconst 0, 1) := dec_0 oX2_layRow (of3 _) rfl
theorem dX2_layRow_1 : decode cX2_layRow 1 = .ok (.iload_n 1, 1) := dec_0 oX2_layRow (of27 _) rfl
theorem dX2_layRow_2 : decode cX2_layRow 2 = .ok (.aload_n 0, 1) := dec_0 oX2_layRow (of42 _) rfl
theorem dX2_layRow_3 : decode cX2_layRow 3 = .ok (.getfield 37, 3) := dec_2 oX2_layRow (of180 _) 0 37 rfl rfl
theorem dX2_layRow_6 : decode cX2_layRow 6 = .ok (.isub, 1) := dec_0 oX2_layRow (of100 _) rfl
theorem dX2_layRow_7 : decode cX2_layRow 7 = .ok (.invokestatic 34, 3) := dec_2 oX2_layRow (of184 _) 0 34 rfl rfl
theorem dX2_layRow_10 : decode cX2_layRow 10 = .ok (.istore_n 2, 1) := dec_0 oX2_layRow (of61 _) rfl
theorem dX2_layRow_11 : decode cX2_layRow 11 = .ok (.aload_n 0, 1) := dec_0 oX2_layRow (of42 _) rfl
theorem dX2_layRow_12 : decode cX2_layRow 12 = .ok (.getfield 24, 3) := dec_2 oX2_layRow (of180 _) 0 24 rfl rfl
theorem dX2_layRow_15 : decode cX2_layRow 15 = .ok (.iconst 1, 1) := dec_0 oX2_layRow (of4 _) rfl
theorem dX2_layRow_16 : decode cX2_layRow 16 = .ok (.isub, 1) := dec_0 oX2_layRow (of100 _) rfl
theorem dX2_layRow_17 : decode cX2_layRow 17 = .ok (.iload_n 1, 1) := dec_0 oX2_layRow (of27 _) rfl
theorem dX2_layRow_18 : decode cX2_layRow 18 = .ok (.aload_n 0, 1) := dec_0 oX2_layRow (of42 _) rfl
theorem dX2_layRow_19 : decode cX2_layRow 19 = .ok (.getfield 37, 3) := dec_2 oX2_layRow (of180 _) 0 37 rfl rfl
theorem dX2_layRow_22 : decode cX2_layRow 22 = .ok (.iadd, 1) := dec_0 oX2_layRow (of96 _) rfl
theorem dX2_layRow_23 : decode cX2_layRow 23 = .ok (.invokestatic 28, 3) := dec_2 oX2_layRow (of184 _) 0 28 rfl rfl
theorem dX2_layRow_26 : decode cX2_layRow 26 = .ok (.istore_n 3, 1) := dec_0 oX2_layRow (of62 _) rfl
theorem dX2_layRow_27 : decode cX2_layRow 27 = .ok (.ldc 93, 2) := dec_1 oX2_layRow (of18 _) 93 rfl rfl
theorem dX2_layRow_29 : decode cX2_layRow 29 = .ok (.istore 4, 2) := dec_1 oX2_layRow (of54 _) 4 rfl rfl
theorem dX2_layRow_31 : decode cX2_layRow 31 = .ok (.iload_n 2, 1) := dec_0 oX2_layRow (of28 _) rfl
theorem dX2_layRow_32 : decode cX2_layRow 32 = .ok (.istore 5, 2) := dec_1 oX2_layRow (of54 _) 5 rfl rfl
theorem dX2_layRow_34 : decode cX2_layRow 34 = .ok (.iload 5, 2) := dec_1 oX2_layRow (of21 _) 5 rfl rfl
theorem dX2_layRow_36 : decode cX2_layRow 36 = .ok (.iload_n 3, 1) := dec_0 oX2_layRow (of29 _) rfl
theorem dX2_layRow_37 : decode cX2_layRow 37 = .ok (.if_icmp .gt 74, 3) := dec_s2 oX2_layRow (of163 _) 0 74 rfl (sg16p rfl) rfl
theorem dX2_layRow_40 : decode cX2_layRow 40 = .ok (.aload_n 0, 1) := dec_0 oX2_layRow (of42 _) rfl
theorem dX2_layRow_41 : decode cX2_layRow 41 = .ok (.aload_n 0, 1) := dec_0 oX2_layRow (of42 _) rfl
theorem dX2_layRow_42 : decode cX2_layRow 42 = .ok (.getfield 9, 3) := dec_2 oX2_layRow (of180 _) 0 9 rfl rfl
theorem dX2_layRow_45 : decode cX2_layRow 45 = .ok (.iload_n 1, 1) := dec_0 oX2_layRow (of27 _) rfl
theorem dX2_layRow_46 : decode cX2_layRow 46 = .ok (.iaload, 1) := dec_0 oX2_layRow (of46 _) rfl
theorem dX2_layRow_47 : decode cX2_layRow 47 = .ok (.aload_n 0, 1) := dec_0 oX2_layRow (of42 _) rfl
theorem dX2_layRow_48 : decode cX2_layRow 48 = .ok (.getfield 15, 3) := dec_2 oX2_layRow (of180 _) 0 15 rfl rfl
theorem dX2_layRow_51 : decode cX2_layRow 51 = .ok (.iload 5, 2) := dec_1 oX2_layRow (of21 _) 5 rfl rfl
theorem dX2_layRow_53 : decode cX2_layRow 53 = .ok (.iaload, 1) := dec_0 oX2_layRow (of46 _) rfl
theorem dX2_layRow_54 : decode cX2_layRow 54 = .ok (.invokevirtual 65, 3) := dec_2 oX2_layRow (of182 _) 0 65 rfl rfl
theorem dX2_layRow_57 : decode cX2_layRow 57 = .ok (.istore 6, 2) := dec_1 oX2_layRow (of54 _) 6 rfl rfl
theorem dX2_layRow_59 : decode cX2_layRow 59 = .ok (.iload_n 1, 1) := dec_0 oX2_layRow (of27 _) rfl
theorem dX2_layRow_60 : decode cX2_layRow 60 = .ok (.ifCond .gt 8, 3) := dec_s2 oX2_layRow (of157 _) 0 8 rfl (sg16p rfl) rfl
theorem dX2_layRow_63 : decode cX2_layRow 63 = .ok (.iload 5, 2) := dec_1 oX2_layRow (of21 _) 5 rfl rfl
theorem dX2_layRow_65 : decode cX2_layRow 65 = .ok (.ifCond .le 15, 3) := dec_s2 oX2_layRow (of158 _) 0 15 rfl (sg16p rfl) rfl
theorem dX2_layRow_68 : decode cX2_layRow 68 = .ok (.iload 6, 2) := dec_1 oX2_layRow (of21 _) 6 rfl rfl
theorem dX2_layRow_70 : decode cX2_layRow 70 = .ok (.aload_n 0, 1) := dec_0 oX2_layRow (of42 _) rfl
theorem dX2_layRow_71 : decode cX2_layRow 71 = .ok (.iload_n 1, 1) := dec_0 oX2_layRow (of27 _) rfl
theorem dX2_layRow_72 : decode cX2_layRow 72 = .ok (.iload 5, 2) := dec_1 oX2_layRow (of21 _) 5 rfl rfl
theorem dX2_layRow_74 : decode cX2_layRow 74 = .ok (.invokevirtual 98, 3) := dec_2 oX2_layRow (of182 _) 0 98 rfl rfl
theorem dX2_layRow_77 : decode cX2_layRow 77 = .ok (.iadd, 1) := dec_0 oX2_layRow (of96 _) rfl
theorem dX2_layRow_78 : decode cX2_layRow 78 = .ok (.istore 6, 2) := dec_1 oX2_layRow (of54 _) 6 rfl rfl
theorem dX2_layRow_80 : decode cX2_layRow 80 = .ok (.aload_n 0, 1) := dec_0 oX2_layRow (of42 _) rfl
theorem dX2_layRow_81 : decode cX2_layRow 81 = .ok (.getfield 18, 3) := dec_2 oX2_layRow (of180 _) 0 18 rfl rfl
theorem dX2_layRow_84 : decode cX2_layRow 84 = .ok (.iload_n 1, 1) := dec_0 oX2_layRow (of27 _) rfl
theorem dX2_layRow_85 : decode cX2_layRow 85 = .ok (.bipush 16, 2) := dec_s1 oX2_layRow (of16 _) 16 rfl (sg8p rfl) rfl
theorem dX2_layRow_87 : decode cX2_layRow 87 = .ok (.imul, 1) := dec_0 oX2_layRow (of104 _) rfl
theorem dX2_layRow_88 : decode cX2_layRow 88 = .ok (.iload 5, 2) := dec_1 oX2_layRow (of21 _) 5 rfl rfl
theorem dX2_layRow_90 : decode cX2_layRow 90 = .ok (.iadd, 1) := dec_0 oX2_layRow (of96 _) rfl
theorem dX2_layRow_91 : decode cX2_layRow 91 = .ok (.iload 6, 2) := dec_1 oX2_layRow (of21 _) 6 rfl rfl
theorem dX2_layRow_93 : decode cX2_layRow 93 = .ok (.iastore, 1) := dec_0 oX2_layRow (of79 _) rfl
theorem dX2_layRow_94 : decode cX2_layRow 94 = .ok (.iload 6, 2) := dec_1 oX2_layRow (of21 _) 6 rfl rfl
theorem dX2_layRow_96 : decode cX2_layRow 96 = .ok (.iload 4, 2) := dec_1 oX2_layRow (of21 _) 4 rfl rfl
theorem dX2_layRow_98 : decode cX2_layRow 98 = .ok (.if_icmp .ge 7, 3) := dec_s2 oX2_layRow (of162 _) 0 7 rfl (sg16p rfl) rfl
theorem dX2_layRow_101 : decode cX2_layRow 101 = .ok (.iload 6, 2) := dec_1 oX2_layRow (of21 _) 6 rfl rfl
theorem dX2_layRow_103 : decode cX2_layRow 103 = .ok (.istore 4, 2) := dec_1 oX2_layRow (of54 _) 4 rfl rfl
theorem dX2_layRow_105 : decode cX2_layRow 105 = .ok (.iinc 5 1, 3) := dec_ii oX2_layRow (of132 _) 5 1 rfl (sg8p rfl) rfl
theorem dX2_layRow_108 : decode cX2_layRow 108 = .ok (.goto (-74), 3) := dec_s2 oX2_layRow (of167 _) 255 182 rfl (sg16n (k := 74) rfl) rfl
theorem dX2_layRow_111 : decode cX2_layRow 111 = .ok (.aload_n 0, 1) := dec_0 oX2_layRow (of42 _) rfl
theorem dX2_layRow_112 : decode cX2_layRow 112 = .ok (.dup, 1) := dec_0 oX2_layRow (of89 _) rfl
theorem dX2_layRow_113 : decode cX2_layRow 113 = .ok (.getfield 76, 3) := dec_2 oX2_layRow (of180 _) 0 76 rfl rfl
theorem dX2_layRow_116 : decode cX2_layRow 116 = .ok (.iload_n 3, 1) := dec_0 oX2_layRow (of29 _) rfl
theorem dX2_layRow_117 : decode cX2_layRow 117 = .ok (.iload_n 2, 1) := dec_0 oX2_layRow (of28 _) rfl
theorem dX2_layRow_118 : decode cX2_layRow 118 = .ok (.isub, 1) := dec_0 oX2_layRow (of100 _) rfl
theorem dX2_layRow_119 : decode cX2_layRow 119 = .ok (.iconst 1, 1) := dec_0 oX2_layRow (of4 _) rfl
theorem dX2_layRow_120 : decode cX2_layRow 120 = .ok (.iadd, 1) := dec_0 oX2_layRow (of96 _) rfl
theorem dX2_layRow_121 : decode cX2_layRow 121 = .ok (.iadd, 1) := dec_0 oX2_layRow (of96 _) rfl
theorem dX2_layRow_122 : decode cX2_layRow 122 = .ok (.putfield 76, 3) := dec_2 oX2_layRow (of181 _) 0 76 rfl rfl
theorem dX2_layRow_125 : decode cX2_layRow 125 = .ok (.iload 4, 2) := dec_1 oX2_layRow (of21 _) 4 rfl rfl
theorem dX2_layRow_127 : decode cX2_layRow 127 = .ok (.ireturn, 1) := dec_0 oX2_layRow (of172 _) rfl
theorem dX2_leastAhead_0 : decode cX2_leastAhead 0 = .ok (.iload_n 1, 1) := dec_0 oX2_leastAhead (of27 _) rfl
theorem dX2_leastAhead_1 : decode cX2_leastAhead 1 = .ok (.bipush 16, 2) := dec_s1 oX2_leastAhead (of16 _) 16 rfl (sg8p rfl) rfl
theorem dX2_leastAhead_3 : decode cX2_leastAhead 3 = .ok (.imul, 1) := dec_0 oX2_leastAhead (of104 _) rfl
theorem dX2_leastAhead_4 : decode cX2_leastAhead 4 = .ok (.iload_n 2, 1) := dec_0 oX2_leastAhead (of28 _) rfl
theorem dX2_leastAhead_5 : decode cX2_leastAhead 5 = .ok (.iadd, 1) := dec_0 oX2_leastAhead (of96 _) rfl
theorem dX2_leastAhead_6 : decode cX2_leastAhead 6 = .ok (.istore_n 3, 1) := dec_0 oX2_leastAhead (of62 _) rfl
theorem dX2_leastAhead_7 : decode cX2_leastAhead 7 = .ok (.ldc 93, 2) := dec_1 oX2_leastAhead (of18 _) 93 rfl rfl
theorem dX2_leastAhead_9 : decode cX2_leastAhead 9 = .ok (.istore 4, 2) := dec_1 oX2_leastAhead (of54 _) 4 rfl rfl
theorem dX2_leastAhead_11 : decode cX2_leastAhead 11 = .ok (.iload_n 1, 1) := dec_0 oX2_leastAhead (of27 _) rfl
theorem dX2_leastAhead_12 : decode cX2_leastAhead 12 = .ok (.ifCond .le 20, 3) := dec_s2 oX2_leastAhead (of158 _) 0 20 rfl (sg16p rfl) rfl
theorem dX2_leastAhead_15 : decode cX2_leastAhead 15 = .ok (.iload_n 2, 1) := dec_0 oX2_leastAhead (of28 _) rfl
theorem dX2_leastAhead_16 : decode cX2_leastAhead 16 = .ok (.ifCond .le 16, 3) := dec_s2 oX2_leastAhead (of158 _) 0 16 rfl (sg16p rfl) rfl
theorem dX2_leastAhead_19 : decode cX2_leastAhead 19 = .ok (.aload_n 0, 1) := dec_0 oX2_leastAhead (of42 _) rfl
theorem dX2_leastAhead_20 : decode cX2_leastAhead 20 = .ok (.getfield 18, 3) := dec_2 oX2_leastAhead (of180 _) 0 18 rfl rfl
theorem dX2_leastAhead_23 : decode cX2_leastAhead 23 = .ok (.iload_n 3, 1) := dec_0 oX2_leastAhead (of29 _) rfl
theorem dX2_leastAhead_24 : decode cX2_leastAhead 24 = .ok (.bipush 16, 2) := dec_s1 oX2_leastAhead (of16 _) 16 rfl (sg8p rfl) rfl
theorem dX2_leastAhead_26 : decode cX2_leastAhead 26 = .ok (.isub, 1) := dec_0 oX2_leastAhead (of100 _) rfl
theorem dX2_leastAhead_27 : decode cX2_leastAhead 27 = .ok (.iconst 1, 1) := dec_0 oX2_leastAhead (of4 _) rfl
theorem dX2_leastAhead_28 : decode cX2_leastAhead 28 = .ok (.isub, 1) := dec_0 oX2_leastAhead (of100 _) rfl
theorem dX2_leastAhead_29 : decode cX2_leastAhead 29 = .ok (.iaload, 1) := dec_0 oX2_leastAhead (of46 _) rfl
theorem dX2_leastAhead_30 : decode cX2_leastAhead 30 = .ok (.istore 4, 2) := dec_1 oX2_leastAhead (of54 _) 4 rfl rfl
theorem dX2_leastAhead_32 : decode cX2_leastAhead 32 = .ok (.iload_n 1, 1) := dec_0 oX2_leastAhead (of27 _) rfl
theorem dX2_leastAhead_33 : decode cX2_leastAhead 33 = .ok (.ifCond .le 38, 3) := dec_s2 oX2_leastAhead (of158 _) 0 38 rfl (sg16p rfl) rfl
theorem dX2_leastAhead_36 : decode cX2_leastAhead 36 = .ok (.iload_n 2, 1) := dec_0 oX2_leastAhead (of28 _) rfl
theorem dX2_leastAhead_37 : decode cX2_leastAhead 37 = .ok (.iload_n 1, 1) := dec_0 oX2_leastAhead (of27 _) rfl
theorem dX2_leastAhead_38 : decode cX2_leastAhead 38 = .ok (.isub, 1) := dec_0 oX2_leastAhead (of100 _) rfl
theorem dX2_leastAhead_39 : decode cX2_leastAhead 39 = .ok (.aload_n 0, 1) := dec_0 oX2_leastAhead (of42 _) rfl
theorem dX2_leastAhead_40 : decode cX2_leastAhead 40 = .ok (.getfield 37, 3) := dec_2 oX2_leastAhead (of180 _) 0 37 rfl rfl
theorem dX2_leastAhead_43 : decode cX2_leastAhead 43 = .ok (.if_icmp .ge 28, 3) := dec_s2 oX2_leastAhead (of162 _) 0 28 rfl (sg16p rfl) rfl
theorem dX2_leastAhead_46 : decode cX2_leastAhead 46 = .ok (.aload_n 0, 1) := dec_0 oX2_leastAhead (of42 _) rfl
theorem dX2_leastAhead_47 : decode cX2_leastAhead 47 = .ok (.getfield 18, 3) := dec_2 oX2_leastAhead (of180 _) 0 18 rfl rfl
theorem dX2_leastAhead_50 : decode cX2_leastAhead 50 = .ok (.iload_n 3, 1) := dec_0 oX2_leastAhead (of29 _) rfl
theorem dX2_leastAhead_51 : decode cX2_leastAhead 51 = .ok (.bipush 16, 2) := dec_s1 oX2_leastAhead (of16 _) 16 rfl (sg8p rfl) rfl
theorem dX2_leastAhead_53 : decode cX2_leastAhead 53 = .ok (.isub, 1) := dec_0 oX2_leastAhead (of100 _) rfl
theorem dX2_leastAhead_54 : decode cX2_leastAhead 54 = .ok (.iaload, 1) := dec_0 oX2_leastAhead (of46 _) rfl
theorem dX2_leastAhead_55 : decode cX2_leastAhead 55 = .ok (.iload 4, 2) := dec_1 oX2_leastAhead (of21 _) 4 rfl rfl
theorem dX2_leastAhead_57 : decode cX2_leastAhead 57 = .ok (.if_icmp .ge 14, 3) := dec_s2 oX2_leastAhead (of162 _) 0 14 rfl (sg16p rfl) rfl
theorem dX2_leastAhead_60 : decode cX2_leastAhead 60 = .ok (.aload_n 0, 1) := dec_0 oX2_leastAhead (of42 _) rfl
theorem dX2_leastAhead_61 : decode cX2_leastAhead 61 = .ok (.getfield 18, 3) := dec_2 oX2_leastAhead (of180 _) 0 18 rfl rfl
theorem dX2_leastAhead_64 : decode cX2_leastAhead 64 = .ok (.iload_n 3, 1) := dec_0 oX2_leastAhead (of29 _) rfl
theorem dX2_leastAhead_65 : decode cX2_leastAhead 65 = .ok (.bipush 16, 2) := dec_s1 oX2_leastAhead (of16 _) 16 rfl (sg8p rfl) rfl
theorem dX2_leastAhead_67 : decode cX2_leastAhead 67 = .ok (.isub, 1) := dec_0 oX2_leastAhead (of100 _) rfl
theorem dX2_leastAhead_68 : decode cX2_leastAhead 68 = .ok (.iaload, 1) := dec_0 oX2_leastAhead (of46 _) rfl
theorem dX2_leastAhead_69 : decode cX2_leastAhead 69 = .ok (.istore 4, 2) := dec_1 oX2_leastAhead (of54 _) 4 rfl rfl
theorem dX2_leastAhead_71 : decode cX2_leastAhead 71 = .ok (.iload_n 2, 1) := dec_0 oX2_leastAhead (of28 _) rfl
theorem dX2_leastAhead_72 : decode cX2_leastAhead 72 = .ok (.ifCond .le 36, 3) := dec_s2 oX2_leastAhead (of158 _) 0 36 rfl (sg16p rfl) rfl
theorem dX2_leastAhead_75 : decode cX2_leastAhead 75 = .ok (.iload_n 1, 1) := dec_0 oX2_leastAhead (of27 _) rfl
theorem dX2_leastAhead_76 : decode cX2_leastAhead 76 = .ok (.iload_n 2, 1) := dec_0 oX2_leastAhead (of28 _) rfl
theorem dX2_leastAhead_77 : decode cX2_leastAhead 77 = .ok (.isub, 1) := dec_0 oX2_leastAhead (of100 _) rfl
theorem dX2_leastAhead_78 : decode cX2_leastAhead 78 = .ok (.aload_n 0, 1) := dec_0 oX2_leastAhead (of42 _) rfl
theorem dX2_leastAhead_79 : decode cX2_leastAhead 79 = .ok (.getfield 37, 3) := dec_2 oX2_leastAhead (of180 _) 0 37 rfl rfl
theorem dX2_leastAhead_82 : decode cX2_leastAhead 82 = .ok (.if_icmp .ge 26, 3) := dec_s2 oX2_leastAhead (of162 _) 0 26 rfl (sg16p rfl) rfl
theorem dX2_leastAhead_85 : decode cX2_leastAhead 85 = .ok (.aload_n 0, 1) := dec_0 oX2_leastAhead (of42 _) rfl
theorem dX2_leastAhead_86 : decode cX2_leastAhead 86 = .ok (.getfield 18, 3) := dec_2 oX2_leastAhead (of180 _) 0 18 rfl rfl
theorem dX2_leastAhead_89 : decode cX2_leastAhead 89 = .ok (.iload_n 3, 1) := dec_0 oX2_leastAhead (of29 _) rfl
theorem dX2_leastAhead_90 : decode cX2_leastAhead 90 = .ok (.iconst 1, 1) := dec_0 oX2_leastAhead (of4 _) rfl
theorem dX2_leastAhead_91 : decode cX2_leastAhead 91 = .ok (.isub, 1) := dec_0 oX2_leastAhead (of100 _) rfl
theorem dX2_leastAhead_92 : decode cX2_leastAhead 92 = .ok (.iaload, 1) := dec_0 oX2_leastAhead (of46 _) rfl
theorem dX2_leastAhead_93 : decode cX2_leastAhead 93 = .ok (.iload 4, 2) := dec_1 oX2_leastAhead (of21 _) 4 rfl rfl
theorem dX2_leastAhead_95 : decode cX2_leastAhead 95 = .ok (.if_icmp .ge 13, 3) := dec_s2 oX2_leastAhead (of162 _) 0 13 rfl (sg16p rfl) rfl
theorem dX2_leastAhead_98 : decode cX2_leastAhead 98 = .ok (.aload_n 0, 1) := dec_0 oX2_leastAhead (of42 _) rfl
theorem dX2_leastAhead_99 : decode cX2_leastAhead 99 = .ok (.getfield 18, 3) := dec_2 oX2_leastAhead (of180 _) 0 18 rfl rfl
theorem dX2_leastAhead_102 : decode cX2_leastAhead 102 = .ok (.iload_n 3, 1) := dec_0 oX2_leastAhead (of29 _) rfl
theorem dX2_leastAhead_103 : decode cX2_leastAhead 103 = .ok (.iconst 1, 1) := dec_0 oX2_leastAhead (of4 _) rfl
theorem dX2_leastAhead_104 : decode cX2_leastAhead 104 = .ok (.isub, 1) := dec_0 oX2_leastAhead (of100 _) rfl
theorem dX2_leastAhead_105 : decode cX2_leastAhead 105 = .ok (.iaload, 1) := dec_0 oX2_leastAhead (of46 _) rfl
theorem dX2_leastAhead_106 : decode cX2_leastAhead 106 = .ok (.istore 4, 2) := dec_1 oX2_leastAhead (of54 _) 4 rfl rfl
theorem dX2_leastAhead_108 : decode cX2_leastAhead 108 = .ok (.iload 4, 2) := dec_1 oX2_leastAhead (of21 _) 4 rfl rfl
theorem dX2_leastAhead_110 : decode cX2_leastAhead 110 = .ok (.ireturn, 1) := dec_0 oX2_leastAhead (of172 _) rfl
theorem dX2_cellAt_0 : decode cX2_cellAt 0 = .ok (.iload_n 1, 1) := dec_0 oX2_cellAt (of27 _) rfl
theorem dX2_cellAt_1 : decode cX2_cellAt 1 = .ok (.ifCond .lt 47, 3) := dec_s2 oX2_cellAt (of155 _) 0 47 rfl (sg16p rfl) rfl
theorem dX2_cellAt_4 : decode cX2_cellAt 4 = .ok (.iload_n 2, 1) := dec_0 oX2_cellAt (of28 _) rfl
theorem dX2_cellAt_5 : decode cX2_cellAt 5 = .ok (.ifCond .lt 43, 3) := dec_s2 oX2_cellAt (of155 _) 0 43 rfl (sg16p rfl) rfl
theorem dX2_cellAt_8 : decode cX2_cellAt 8 = .ok (.iload_n 1, 1) := dec_0 oX2_cellAt (of27 _) rfl
theorem dX2_cellAt_9 : decode cX2_cellAt 9 = .ok (.aload_n 0, 1) := dec_0 oX2_cellAt (of42 _) rfl
theorem dX2_cellAt_10 : decode cX2_cellAt 10 = .ok (.getfield 24, 3) := dec_2 oX2_cellAt (of180 _) 0 24 rfl rfl
theorem dX2_cellAt_13 : decode cX2_cellAt 13 = .ok (.if_icmp .ge 35, 3) := dec_s2 oX2_cellAt (of162 _) 0 35 rfl (sg16p rfl) rfl
theorem dX2_cellAt_16 : decode cX2_cellAt 16 = .ok (.iload_n 2, 1) := dec_0 oX2_cellAt (of28 _) rfl
theorem dX2_cellAt_17 : decode cX2_cellAt 17 = .ok (.aload_n 0, 1) := dec_0 oX2_cellAt (of42 _) rfl
theorem dX2_cellAt_18 : decode cX2_cellAt 18 = .ok (.getfield 24, 3) := dec_2 oX2_cellAt (of180 _) 0 24 rfl rfl
theorem dX2_cellAt_21 : decode cX2_cellAt 21 = .ok (.if_icmp .ge 27, 3) := dec_s2 oX2_cellAt (of162 _) 0 27 rfl (sg16p rfl) rfl
theorem dX2_cellAt_24 : decode cX2_cellAt 24 = .ok (.iload_n 1, 1) := dec_0 oX2_cellAt (of27 _) rfl
theorem dX2_cellAt_25 : decode cX2_cellAt 25 = .ok (.iload_n 2, 1) := dec_0 oX2_cellAt (of28 _) rfl
theorem dX2_cellAt_26 : decode cX2_cellAt 26 = .ok (.isub, 1) := dec_0 oX2_cellAt (of100 _) rfl
theorem dX2_cellAt_27 : decode cX2_cellAt 27 = .ok (.aload_n 0, 1) := dec_0 oX2_cellAt (of42 _) rfl
theorem dX2_cellAt_28 : decode cX2_cellAt 28 = .ok (.getfield 37, 3) := dec_2 oX2_cellAt (of180 _) 0 37 rfl rfl
theorem dX2_cellAt_31 : decode cX2_cellAt 31 = .ok (.if_icmp .gt 17, 3) := dec_s2 oX2_cellAt (of163 _) 0 17 rfl (sg16p rfl) rfl
theorem dX2_cellAt_34 : decode cX2_cellAt 34 = .ok (.iload_n 2, 1) := dec_0 oX2_cellAt (of28 _) rfl
theorem dX2_cellAt_35 : decode cX2_cellAt 35 = .ok (.iload_n 1, 1) := dec_0 oX2_cellAt (of27 _) rfl
theorem dX2_cellAt_36 : decode cX2_cellAt 36 = .ok (.isub, 1) := dec_0 oX2_cellAt (of100 _) rfl
theorem dX2_cellAt_37 : decode cX2_cellAt 37 = .ok (.aload_n 0, 1) := dec_0 oX2_cellAt (of42 _) rfl
theorem dX2_cellAt_38 : decode cX2_cellAt 38 = .ok (.getfield 37, 3) := dec_2 oX2_cellAt (of180 _) 0 37 rfl rfl
theorem dX2_cellAt_41 : decode cX2_cellAt 41 = .ok (.if_icmp .gt 7, 3) := dec_s2 oX2_cellAt (of163 _) 0 7 rfl (sg16p rfl) rfl
theorem dX2_cellAt_44 : decode cX2_cellAt 44 = .ok (.iconst 1, 1) := dec_0 oX2_cellAt (of4 _) rfl
theorem dX2_cellAt_45 : decode cX2_cellAt 45 = .ok (.goto 4, 3) := dec_s2 oX2_cellAt (of167 _) 0 4 rfl (sg16p rfl) rfl
theorem dX2_cellAt_48 : decode cX2_cellAt 48 = .ok (.iconst 0, 1) := dec_0 oX2_cellAt (of3 _) rfl
theorem dX2_cellAt_49 : decode cX2_cellAt 49 = .ok (.istore_n 3, 1) := dec_0 oX2_cellAt (of62 _) rfl
theorem dX2_cellAt_50 : decode cX2_cellAt 50 = .ok (.iload_n 3, 1) := dec_0 oX2_cellAt (of29 _) rfl
theorem dX2_cellAt_51 : decode cX2_cellAt 51 = .ok (.ifCond .eq 17, 3) := dec_s2 oX2_cellAt (of153 _) 0 17 rfl (sg16p rfl) rfl
theorem dX2_cellAt_54 : decode cX2_cellAt 54 = .ok (.aload_n 0, 1) := dec_0 oX2_cellAt (of42 _) rfl
theorem dX2_cellAt_55 : decode cX2_cellAt 55 = .ok (.getfield 18, 3) := dec_2 oX2_cellAt (of180 _) 0 18 rfl rfl
theorem dX2_cellAt_58 : decode cX2_cellAt 58 = .ok (.iload_n 1, 1) := dec_0 oX2_cellAt (of27 _) rfl
theorem dX2_cellAt_59 : decode cX2_cellAt 59 = .ok (.bipush 16, 2) := dec_s1 oX2_cellAt (of16 _) 16 rfl (sg8p rfl) rfl
theorem dX2_cellAt_61 : decode cX2_cellAt 61 = .ok (.imul, 1) := dec_0 oX2_cellAt (of104 _) rfl
theorem dX2_cellAt_62 : decode cX2_cellAt 62 = .ok (.iload_n 2, 1) := dec_0 oX2_cellAt (of28 _) rfl
theorem dX2_cellAt_63 : decode cX2_cellAt 63 = .ok (.iadd, 1) := dec_0 oX2_cellAt (of96 _) rfl
theorem dX2_cellAt_64 : decode cX2_cellAt 64 = .ok (.iaload, 1) := dec_0 oX2_cellAt (of46 _) rfl
theorem dX2_cellAt_65 : decode cX2_cellAt 65 = .ok (.goto 5, 3) := dec_s2 oX2_cellAt (of167 _) 0 5 rfl (sg16p rfl) rfl
theorem dX2_cellAt_68 : decode cX2_cellAt 68 = .ok (.ldc 93, 2) := dec_1 oX2_cellAt (of18 _) 93 rfl rfl
theorem dX2_cellAt_70 : decode cX2_cellAt 70 = .ok (.ireturn, 1) := dec_0 oX2_cellAt (of172 _) rfl
theorem dX2_traceWay_0 : decode cX2_traceWay 0 = .ok (.aload_n 0, 1) := dec_0 oX2_traceWay (of42 _) rfl
theorem dX2_traceWay_1 : decode cX2_traceWay 1 = .ok (.ldc 93, 2) := dec_1 oX2_traceWay (of18 _) 93 rfl rfl
theorem dX2_traceWay_3 : decode cX2_traceWay 3 = .ok (.invokevirtual 86, 3) := dec_2 oX2_traceWay (of182 _) 0 86 rfl rfl
theorem dX2_traceWay_6 : decode cX2_traceWay 6 = .ok (.aload_n 0, 1) := dec_0 oX2_traceWay (of42 _) rfl
theorem dX2_traceWay_7 : decode cX2_traceWay 7 = .ok (.iconst 0, 1) := dec_0 oX2_traceWay (of3 _) rfl
theorem dX2_traceWay_8 : decode cX2_traceWay 8 = .ok (.putfield 101, 3) := dec_2 oX2_traceWay (of181 _) 0 101 rfl rfl
theorem dX2_traceWay_11 : decode cX2_traceWay 11 = .ok (.aload_n 0, 1) := dec_0 oX2_traceWay (of42 _) rfl
theorem dX2_traceWay_12 : decode cX2_traceWay 12 = .ok (.getfield 24, 3) := dec_2 oX2_traceWay (of180 _) 0 24 rfl rfl
theorem dX2_traceWay_15 : decode cX2_traceWay 15 = .ok (.iconst 1, 1) := dec_0 oX2_traceWay (of4 _) rfl
theorem dX2_traceWay_16 : decode cX2_traceWay 16 = .ok (.isub, 1) := dec_0 oX2_traceWay (of100 _) rfl
theorem dX2_traceWay_17 : decode cX2_traceWay 17 = .ok (.istore_n 1, 1) := dec_0 oX2_traceWay (of60 _) rfl
theorem dX2_traceWay_18 : decode cX2_traceWay 18 = .ok (.aload_n 0, 1) := dec_0 oX2_traceWay (of42 _) rfl
theorem dX2_traceWay_19 : decode cX2_traceWay 19 = .ok (.getfield 24, 3) := dec_2 oX2_traceWay (of180 _) 0 24 rfl rfl
theorem dX2_traceWay_22 : decode cX2_traceWay 22 = .ok (.iconst 1, 1) := dec_0 oX2_traceWay (of4 _) rfl
theorem dX2_traceWay_23 : decode cX2_traceWay 23 = .ok (.isub, 1) := dec_0 oX2_traceWay (of100 _) rfl
theorem dX2_traceWay_24 : decode cX2_traceWay 24 = .ok (.istore_n 2, 1) := dec_0 oX2_traceWay (of61 _) rfl
theorem dX2_traceWay_25 : decode cX2_traceWay 25 = .ok (.iconst 0, 1) := dec_0 oX2_traceWay (of3 _) rfl
theorem dX2_traceWay_26 : decode cX2_traceWay 26 = .ok (.istore_n 3, 1) := dec_0 oX2_traceWay (of62 _) rfl
theorem dX2_traceWay_27 : decode cX2_traceWay 27 = .ok (.iload_n 3, 1) := dec_0 oX2_traceWay (of29 _) rfl
theorem dX2_traceWay_28 : decode cX2_traceWay 28 = .ok (.aload_n 0, 1) := dec_0 oX2_traceWay (of42 _) rfl
theorem dX2_traceWay_29 : decode cX2_traceWay 29 = .ok (.getfield 21, 3) := dec_2 oX2_traceWay (of180 _) 0 21 rfl rfl
theorem dX2_traceWay_32 : decode cX2_traceWay 32 = .ok (.arraylength, 1) := dec_0 oX2_traceWay (of190 _) rfl
theorem dX2_traceWay_33 : decode cX2_traceWay 33 = .ok (.if_icmp .ge 107, 3) := dec_s2 oX2_traceWay (of162 _) 0 107 rfl (sg16p rfl) rfl
theorem dX2_traceWay_36 : decode cX2_traceWay 36 = .ok (.iload_n 1, 1) := dec_0 oX2_traceWay (of27 _) rfl
theorem dX2_traceWay_37 : decode cX2_traceWay 37 = .ok (.ifCond .lt 103, 3) := dec_s2 oX2_traceWay (of155 _) 0 103 rfl (sg16p rfl) rfl
theorem dX2_traceWay_40 : decode cX2_traceWay 40 = .ok (.iload_n 2, 1) := dec_0 oX2_traceWay (of28 _) rfl
theorem dX2_traceWay_41 : decode cX2_traceWay 41 = .ok (.ifCond .lt 99, 3) := dec_s2 oX2_traceWay (of155 _) 0 99 rfl (sg16p rfl) rfl
theorem dX2_traceWay_44 : decode cX2_traceWay 44 = .ok (.aload_n 0, 1) := dec_0 oX2_traceWay (of42 _) rfl
theorem dX2_traceWay_45 : decode cX2_traceWay 45 = .ok (.getfield 21, 3) := dec_2 oX2_traceWay (of180 _) 0 21 rfl rfl
theorem dX2_traceWay_48 : decode cX2_traceWay 48 = .ok (.iload_n 3, 1) := dec_0 oX2_traceWay (of29 _) rfl
theorem dX2_traceWay_49 : decode cX2_traceWay 49 = .ok (.bipush 100, 2) := dec_s1 oX2_traceWay (of16 _) 100 rfl (sg8p rfl) rfl
theorem dX2_traceWay_51 : decode cX2_traceWay 51 = .ok (.iload_n 1, 1) := dec_0 oX2_traceWay (of27 _) rfl
theorem dX2_traceWay_52 : decode cX2_traceWay 52 = .ok (.imul, 1) := dec_0 oX2_traceWay (of104 _) rfl
theorem dX2_traceWay_53 : decode cX2_traceWay 53 = .ok (.iload_n 2, 1) := dec_0 oX2_traceWay (of28 _) rfl
theorem dX2_traceWay_54 : decode cX2_traceWay 54 = .ok (.iadd, 1) := dec_0 oX2_traceWay (of96 _) rfl
theorem dX2_traceWay_55 : decode cX2_traceWay 55 = .ok (.iastore, 1) := dec_0 oX2_traceWay (of79 _) rfl
theorem dX2_traceWay_56 : decode cX2_traceWay 56 = .ok (.aload_n 0, 1) := dec_0 oX2_traceWay (of42 _) rfl
theorem dX2_traceWay_57 : decode cX2_traceWay 57 = .ok (.iload_n 3, 1) := dec_0 oX2_traceWay (of29 _) rfl
theorem dX2_traceWay_58 : decode cX2_traceWay 58 = .ok (.iconst 1, 1) := dec_0 oX2_traceWay (of4 _) rfl
theorem dX2_traceWay_59 : decode cX2_traceWay 59 = .ok (.iadd, 1) := dec_0 oX2_traceWay (of96 _) rfl
theorem dX2_traceWay_60 : decode cX2_traceWay 60 = .ok (.putfield 101, 3) := dec_2 oX2_traceWay (of181 _) 0 101 rfl rfl
theorem dX2_traceWay_63 : decode cX2_traceWay 63 = .ok (.aload_n 0, 1) := dec_0 oX2_traceWay (of42 _) rfl
theorem dX2_traceWay_64 : decode cX2_traceWay 64 = .ok (.iload_n 1, 1) := dec_0 oX2_traceWay (of27 _) rfl
theorem dX2_traceWay_65 : decode cX2_traceWay 65 = .ok (.iconst 1, 1) := dec_0 oX2_traceWay (of4 _) rfl
theorem dX2_traceWay_66 : decode cX2_traceWay 66 = .ok (.isub, 1) := dec_0 oX2_traceWay (of100 _) rfl
theorem dX2_traceWay_67 : decode cX2_traceWay 67 = .ok (.iload_n 2, 1) := dec_0 oX2_traceWay (of28 _) rfl
theorem dX2_traceWay_68 : decode cX2_traceWay 68 = .ok (.iconst 1, 1) := dec_0 oX2_traceWay (of4 _) rfl
theorem dX2_traceWay_69 : decode cX2_traceWay 69 = .ok (.isub, 1) := dec_0 oX2_traceWay (of100 _) rfl
theorem dX2_traceWay_70 : decode cX2_traceWay 70 = .ok (.invokevirtual 104, 3) := dec_2 oX2_traceWay (of182 _) 0 104 rfl rfl
theorem dX2_traceWay_73 : decode cX2_traceWay 73 = .ok (.istore 4, 2) := dec_1 oX2_traceWay (of54 _) 4 rfl rfl
theorem dX2_traceWay_75 : decode cX2_traceWay 75 = .ok (.aload_n 0, 1) := dec_0 oX2_traceWay (of42 _) rfl
theorem dX2_traceWay_76 : decode cX2_traceWay 76 = .ok (.iload_n 1, 1) := dec_0 oX2_traceWay (of27 _) rfl
theorem dX2_traceWay_77 : decode cX2_traceWay 77 = .ok (.iconst 1, 1) := dec_0 oX2_traceWay (of4 _) rfl
theorem dX2_traceWay_78 : decode cX2_traceWay 78 = .ok (.isub, 1) := dec_0 oX2_traceWay (of100 _) rfl
theorem dX2_traceWay_79 : decode cX2_traceWay 79 = .ok (.iload_n 2, 1) := dec_0 oX2_traceWay (of28 _) rfl
theorem dX2_traceWay_80 : decode cX2_traceWay 80 = .ok (.invokevirtual 104, 3) := dec_2 oX2_traceWay (of182 _) 0 104 rfl rfl
theorem dX2_traceWay_83 : decode cX2_traceWay 83 = .ok (.istore 5, 2) := dec_1 oX2_traceWay (of54 _) 5 rfl rfl
theorem dX2_traceWay_85 : decode cX2_traceWay 85 = .ok (.aload_n 0, 1) := dec_0 oX2_traceWay (of42 _) rfl
theorem dX2_traceWay_86 : decode cX2_traceWay 86 = .ok (.iload_n 1, 1) := dec_0 oX2_traceWay (of27 _) rfl
theorem dX2_traceWay_87 : decode cX2_traceWay 87 = .ok (.iload_n 2, 1) := dec_0 oX2_traceWay (of28 _) rfl
theorem dX2_traceWay_88 : decode cX2_traceWay 88 = .ok (.iconst 1, 1) := dec_0 oX2_traceWay (of4 _) rfl
theorem dX2_traceWay_89 : decode cX2_traceWay 89 = .ok (.isub, 1) := dec_0 oX2_traceWay (of100 _) rfl
theorem dX2_traceWay_90 : decode cX2_traceWay 90 = .ok (.invokevirtual 104, 3) := dec_2 oX2_traceWay (of182 _) 0 104 rfl rfl
theorem dX2_traceWay_93 : decode cX2_traceWay 93 = .ok (.istore 6, 2) := dec_1 oX2_traceWay (of54 _) 6 rfl rfl
theorem dX2_traceWay_95 : decode cX2_traceWay 95 = .ok (.iload 4, 2) := dec_1 oX2_traceWay (of21 _) 4 rfl rfl
theorem dX2_traceWay_97 : decode cX2_traceWay 97 = .ok (.iload 5, 2) := dec_1 oX2_traceWay (of21 _) 5 rfl rfl
theorem dX2_traceWay_99 : decode cX2_traceWay 99 = .ok (.if_icmp .gt 19, 3) := dec_s2 oX2_traceWay (of163 _) 0 19 rfl (sg16p rfl) rfl
theorem dX2_traceWay_102 : decode cX2_traceWay 102 = .ok (.iload 4, 2) := dec_1 oX2_traceWay (of21 _) 4 rfl rfl
theorem dX2_traceWay_104 : decode cX2_traceWay 104 = .ok (.iload 6, 2) := dec_1 oX2_traceWay (of21 _) 6 rfl rfl
theorem dX2_traceWay_106 : decode cX2_traceWay 106 = .ok (.if_icmp .gt 12, 3) := dec_s2 oX2_traceWay (of163 _) 0 12 rfl (sg16p rfl) rfl
theorem dX2_traceWay_109 : decode cX2_traceWay 109 = .ok (.iinc 1 (-1), 3) := dec_ii oX2_traceWay (of132 _) 1 255 rfl (sg8n (k := 1) rfl) rfl
theorem dX2_traceWay_112 : decode cX2_traceWay 112 = .ok (.iinc 2 (-1), 3) := dec_ii oX2_traceWay (of132 _) 2 255 rfl (sg8n (k := 1) rfl) rfl
theorem dX2_traceWay_115 : decode cX2_traceWay 115 = .ok (.goto 19, 3) := dec_s2 oX2_traceWay (of167 _) 0 19 rfl (sg16p rfl) rfl
theorem dX2_traceWay_118 : decode cX2_traceWay 118 = .ok (.iload 5, 2) := dec_1 oX2_traceWay (of21 _) 5 rfl rfl
theorem dX2_traceWay_120 : decode cX2_traceWay 120 = .ok (.iload 6, 2) := dec_1 oX2_traceWay (of21 _) 6 rfl rfl
theorem dX2_traceWay_122 : decode cX2_traceWay 122 = .ok (.if_icmp .gt 9, 3) := dec_s2 oX2_traceWay (of163 _) 0 9 rfl (sg16p rfl) rfl
theorem dX2_traceWay_125 : decode cX2_traceWay 125 = .ok (.iinc 1 (-1), 3) := dec_ii oX2_traceWay (of132 _) 1 255 rfl (sg8n (k := 1) rfl) rfl
theorem dX2_traceWay_128 : decode cX2_traceWay 128 = .ok (.goto 6, 3) := dec_s2 oX2_traceWay (of167 _) 0 6 rfl (sg16p rfl) rfl
theorem dX2_traceWay_131 : decode cX2_traceWay 131 = .ok (.iinc 2 (-1), 3) := dec_ii oX2_traceWay (of132 _) 2 255 rfl (sg8n (k := 1) rfl) rfl
theorem dX2_traceWay_134 : decode cX2_traceWay 134 = .ok (.iinc 3 1, 3) := dec_ii oX2_traceWay (of132 _) 3 1 rfl (sg8p rfl) rfl
theorem dX2_traceWay_137 : decode cX2_traceWay 137 = .ok (.goto (-110), 3) := dec_s2 oX2_traceWay (of167 _) 255 146 rfl (sg16n (k := 110) rfl) rfl
theorem dX2_traceWay_140 : decode cX2_traceWay 140 = .ok (.return_, 1) := dec_0 oX2_traceWay (of177 _) rfl
theorem dX2_wayPlace_0 : decode cX2_wayPlace 0 = .ok (.aload_n 0, 1) := dec_0 oX2_wayPlace (of42 _) rfl
theorem dX2_wayPlace_1 : decode cX2_wayPlace 1 = .ok (.getfield 101, 3) := dec_2 oX2_wayPlace (of180 _) 0 101 rfl rfl
theorem dX2_wayPlace_4 : decode cX2_wayPlace 4 = .ok (.iconst 1, 1) := dec_0 oX2_wayPlace (of4 _) rfl
theorem dX2_wayPlace_5 : decode cX2_wayPlace 5 = .ok (.isub, 1) := dec_0 oX2_wayPlace (of100 _) rfl
theorem dX2_wayPlace_6 : decode cX2_wayPlace 6 = .ok (.iload_n 1, 1) := dec_0 oX2_wayPlace (of27 _) rfl
theorem dX2_wayPlace_7 : decode cX2_wayPlace 7 = .ok (.isub, 1) := dec_0 oX2_wayPlace (of100 _) rfl
theorem dX2_wayPlace_8 : decode cX2_wayPlace 8 = .ok (.istore_n 2, 1) := dec_0 oX2_wayPlace (of61 _) rfl
theorem dX2_wayPlace_9 : decode cX2_wayPlace 9 = .ok (.iload_n 1, 1) := dec_0 oX2_wayPlace (of27 _) rfl
theorem dX2_wayPlace_10 : decode cX2_wayPlace 10 = .ok (.ifCond .lt 25, 3) := dec_s2 oX2_wayPlace (of155 _) 0 25 rfl (sg16p rfl) rfl
theorem dX2_wayPlace_13 : decode cX2_wayPlace 13 = .ok (.iload_n 2, 1) := dec_0 oX2_wayPlace (of28 _) rfl
theorem dX2_wayPlace_14 : decode cX2_wayPlace 14 = .ok (.ifCond .lt 21, 3) := dec_s2 oX2_wayPlace (of155 _) 0 21 rfl (sg16p rfl) rfl
theorem dX2_wayPlace_17 : decode cX2_wayPlace 17 = .ok (.iload_n 2, 1) := dec_0 oX2_wayPlace (of28 _) rfl
theorem dX2_wayPlace_18 : decode cX2_wayPlace 18 = .ok (.aload_n 0, 1) := dec_0 oX2_wayPlace (of42 _) rfl
theorem dX2_wayPlace_19 : decode cX2_wayPlace 19 = .ok (.getfield 21, 3) := dec_2 oX2_wayPlace (of180 _) 0 21 rfl rfl
theorem dX2_wayPlace_22 : decode cX2_wayPlace 22 = .ok (.arraylength, 1) := dec_0 oX2_wayPlace (of190 _) rfl
theorem dX2_wayPlace_23 : decode cX2_wayPlace 23 = .ok (.if_icmp .ge 12, 3) := dec_s2 oX2_wayPlace (of162 _) 0 12 rfl (sg16p rfl) rfl
theorem dX2_wayPlace_26 : decode cX2_wayPlace 26 = .ok (.aload_n 0, 1) := dec_0 oX2_wayPlace (of42 _) rfl
theorem dX2_wayPlace_27 : decode cX2_wayPlace 27 = .ok (.getfield 21, 3) := dec_2 oX2_wayPlace (of180 _) 0 21 rfl rfl
theorem dX2_wayPlace_30 : decode cX2_wayPlace 30 = .ok (.iload_n 2, 1) := dec_0 oX2_wayPlace (of28 _) rfl
theorem dX2_wayPlace_31 : decode cX2_wayPlace 31 = .ok (.iaload, 1) := dec_0 oX2_wayPlace (of46 _) rfl
theorem dX2_wayPlace_32 : decode cX2_wayPlace 32 = .ok (.goto 4, 3) := dec_s2 oX2_wayPlace (of167 _) 0 4 rfl (sg16p rfl) rfl
theorem dX2_wayPlace_35 : decode cX2_wayPlace 35 = .ok (.iconst (-1), 1) := dec_0 oX2_wayPlace (of2 _) rfl
theorem dX2_wayPlace_36 : decode cX2_wayPlace 36 = .ok (.ireturn, 1) := dec_0 oX2_wayPlace (of172 _) rfl
theorem dX2_widestOfWay_0 : decode cX2_widestOfWay 0 = .ok (.iconst 0, 1) := dec_0 oX2_widestOfWay (of3 _) rfl
theorem dX2_widestOfWay_1 : decode cX2_widestOfWay 1 = .ok (.istore_n 1, 1) := dec_0 oX2_widestOfWay (of60 _) rfl
theorem dX2_widestOfWay_2 : decode cX2_widestOfWay 2 = .ok (.iconst 0, 1) := dec_0 oX2_widestOfWay (of3 _) rfl
theorem dX2_widestOfWay_3 : decode cX2_widestOfWay 3 = .ok (.istore_n 2, 1) := dec_0 oX2_widestOfWay (of61 _) rfl
theorem dX2_widestOfWay_4 : decode cX2_widestOfWay 4 = .ok (.iload_n 2, 1) := dec_0 oX2_widestOfWay (of28 _) rfl
theorem dX2_widestOfWay_5 : decode cX2_widestOfWay 5 = .ok (.aload_n 0, 1) := dec_0 oX2_widestOfWay (of42 _) rfl
theorem dX2_widestOfWay_6 : decode cX2_widestOfWay 6 = .ok (.getfield 101, 3) := dec_2 oX2_widestOfWay (of180 _) 0 101 rfl rfl
theorem dX2_widestOfWay_9 : decode cX2_widestOfWay 9 = .ok (.if_icmp .ge 32, 3) := dec_s2 oX2_widestOfWay (of162 _) 0 32 rfl (sg16p rfl) rfl
theorem dX2_widestOfWay_12 : decode cX2_widestOfWay 12 = .ok (.aload_n 0, 1) := dec_0 oX2_widestOfWay (of42 _) rfl
theorem dX2_widestOfWay_13 : decode cX2_widestOfWay 13 = .ok (.iload_n 2, 1) := dec_0 oX2_widestOfWay (of28 _) rfl
theorem dX2_widestOfWay_14 : decode cX2_widestOfWay 14 = .ok (.invokevirtual 107, 3) := dec_2 oX2_widestOfWay (of182 _) 0 107 rfl rfl
theorem dX2_widestOfWay_17 : decode cX2_widestOfWay 17 = .ok (.istore_n 3, 1) := dec_0 oX2_widestOfWay (of62 _) rfl
theorem dX2_widestOfWay_18 : decode cX2_widestOfWay 18 = .ok (.iload_n 1, 1) := dec_0 oX2_widestOfWay (of27 _) rfl
theorem dX2_widestOfWay_19 : decode cX2_widestOfWay 19 = .ok (.iload_n 3, 1) := dec_0 oX2_widestOfWay (of29 _) rfl
theorem dX2_widestOfWay_20 : decode cX2_widestOfWay 20 = .ok (.bipush 100, 2) := dec_s1 oX2_widestOfWay (of16 _) 100 rfl (sg8p rfl) rfl
theorem dX2_widestOfWay_22 : decode cX2_widestOfWay 22 = .ok (.idiv, 1) := dec_0 oX2_widestOfWay (of108 _) rfl
theorem dX2_widestOfWay_23 : decode cX2_widestOfWay 23 = .ok (.iload_n 3, 1) := dec_0 oX2_widestOfWay (of29 _) rfl
theorem dX2_widestOfWay_24 : decode cX2_widestOfWay 24 = .ok (.bipush 100, 2) := dec_s1 oX2_widestOfWay (of16 _) 100 rfl (sg8p rfl) rfl
theorem dX2_widestOfWay_26 : decode cX2_widestOfWay 26 = .ok (.irem, 1) := dec_0 oX2_widestOfWay (of112 _) rfl
theorem dX2_widestOfWay_27 : decode cX2_widestOfWay 27 = .ok (.isub, 1) := dec_0 oX2_widestOfWay (of100 _) rfl
theorem dX2_widestOfWay_28 : decode cX2_widestOfWay 28 = .ok (.invokestatic 110, 3) := dec_2 oX2_widestOfWay (of184 _) 0 110 rfl rfl
theorem dX2_widestOfWay_31 : decode cX2_widestOfWay 31 = .ok (.invokestatic 34, 3) := dec_2 oX2_widestOfWay (of184 _) 0 34 rfl rfl
theorem dX2_widestOfWay_34 : decode cX2_widestOfWay 34 = .ok (.istore_n 1, 1) := dec_0 oX2_widestOfWay (of60 _) rfl
theorem dX2_widestOfWay_35 : decode cX2_widestOfWay 35 = .ok (.iinc 2 1, 3) := dec_ii oX2_widestOfWay (of132 _) 2 1 rfl (sg8p rfl) rfl
theorem dX2_widestOfWay_38 : decode cX2_widestOfWay 38 = .ok (.goto (-34), 3) := dec_s2 oX2_widestOfWay (of167 _) 255 222 rfl (sg16n (k := 34) rfl) rfl
theorem dX2_widestOfWay_41 : decode cX2_widestOfWay 41 = .ok (.iload_n 1, 1) := dec_0 oX2_widestOfWay (of27 _) rfl
theorem dX2_widestOfWay_42 : decode cX2_widestOfWay 42 = .ok (.ireturn, 1) := dec_0 oX2_widestOfWay (of172 _) rfl
theorem dX2_stepsInBoth_0 : decode cX2_stepsInBoth 0 = .ok (.iconst 0, 1) := dec_0 oX2_stepsInBoth (of3 _) rfl
theorem dX2_stepsInBoth_1 : decode cX2_stepsInBoth 1 = .ok (.istore_n 1, 1) := dec_0 oX2_stepsInBoth (of60 _) rfl
theorem dX2_stepsInBoth_2 : decode cX2_stepsInBoth 2 = .ok (.iconst 1, 1) := dec_0 oX2_stepsInBoth (of4 _) rfl
theorem dX2_stepsInBoth_3 : decode cX2_stepsInBoth 3 = .ok (.istore_n 2, 1) := dec_0 oX2_stepsInBoth (of61 _) rfl
theorem dX2_stepsInBoth_4 : decode cX2_stepsInBoth 4 = .ok (.iload_n 2, 1) := dec_0 oX2_stepsInBoth (of28 _) rfl
theorem dX2_stepsInBoth_5 : decode cX2_stepsInBoth 5 = .ok (.aload_n 0, 1) := dec_0 oX2_stepsInBoth (of42 _) rfl
theorem dX2_stepsInBoth_6 : decode cX2_stepsInBoth 6 = .ok (.getfield 101, 3) := dec_2 oX2_stepsInBoth (of180 _) 0 101 rfl rfl
theorem dX2_stepsInBoth_9 : decode cX2_stepsInBoth 9 = .ok (.if_icmp .ge 30, 3) := dec_s2 oX2_stepsInBoth (of162 _) 0 30 rfl (sg16p rfl) rfl
theorem dX2_stepsInBoth_12 : decode cX2_stepsInBoth 12 = .ok (.aload_n 0, 1) := dec_0 oX2_stepsInBoth (of42 _) rfl
theorem dX2_stepsInBoth_13 : decode cX2_stepsInBoth 13 = .ok (.iload_n 2, 1) := dec_0 oX2_stepsInBoth (of28 _) rfl
theorem dX2_stepsInBoth_14 : decode cX2_stepsInBoth 14 = .ok (.invokevirtual 107, 3) := dec_2 oX2_stepsInBoth (of182 _) 0 107 rfl rfl
theorem dX2_stepsInBoth_17 : decode cX2_stepsInBoth 17 = .ok (.aload_n 0, 1) := dec_0 oX2_stepsInBoth (of42 _) rfl
theorem dX2_stepsInBoth_18 : decode cX2_stepsInBoth 18 = .ok (.iload_n 2, 1) := dec_0 oX2_stepsInBoth (of28 _) rfl
theorem dX2_stepsInBoth_19 : decode cX2_stepsInBoth 19 = .ok (.iconst 1, 1) := dec_0 oX2_stepsInBoth (of4 _) rfl
theorem dX2_stepsInBoth_20 : decode cX2_stepsInBoth 20 = .ok (.isub, 1) := dec_0 oX2_stepsInBoth (of100 _) rfl
theorem dX2_stepsInBoth_21 : decode cX2_stepsInBoth 21 = .ok (.invokevirtual 107, 3) := dec_2 oX2_stepsInBoth (of182 _) 0 107 rfl rfl
theorem dX2_stepsInBoth_24 : decode cX2_stepsInBoth 24 = .ok (.isub, 1) := dec_0 oX2_stepsInBoth (of100 _) rfl
theorem dX2_stepsInBoth_25 : decode cX2_stepsInBoth 25 = .ok (.bipush 101, 2) := dec_s1 oX2_stepsInBoth (of16 _) 101 rfl (sg8p rfl) rfl
theorem dX2_stepsInBoth_27 : decode cX2_stepsInBoth 27 = .ok (.if_icmp .ne 6, 3) := dec_s2 oX2_stepsInBoth (of160 _) 0 6 rfl (sg16p rfl) rfl
theorem dX2_stepsInBoth_30 : decode cX2_stepsInBoth 30 = .ok (.iinc 1 1, 3) := dec_ii oX2_stepsInBoth (of132 _) 1 1 rfl (sg8p rfl) rfl
theorem dX2_stepsInBoth_33 : decode cX2_stepsInBoth 33 = .ok (.iinc 2 1, 3) := dec_ii oX2_stepsInBoth (of132 _) 2 1 rfl (sg8p rfl) rfl
theorem dX2_stepsInBoth_36 : decode cX2_stepsInBoth 36 = .ok (.goto (-32), 3) := dec_s2 oX2_stepsInBoth (of167 _) 255 224 rfl (sg16n (k := 32) rfl) rfl
theorem dX2_stepsInBoth_39 : decode cX2_stepsInBoth 39 = .ok (.iload_n 1, 1) := dec_0 oX2_stepsInBoth (of27 _) rfl
theorem dX2_stepsInBoth_40 : decode cX2_stepsInBoth 40 = .ok (.ireturn, 1) := dec_0 oX2_stepsInBoth (of172 _) rfl
theorem dX3_note_16 : decode cX3_note 16 = .ok (.return_, 1) := dec_0 oX3_note (of177 _) rfl
theorem dX3_note_57 : decode cX3_note 57 = .ok (.iconst 0, 1) := dec_0 oX3_note (of3 _) rfl
theorem dX3_note_58 : decode cX3_note 58 = .ok (.goto 9, 3) := dec_s2 oX3_note (of167 _) 0 9 rfl (sg16p rfl) rfl
theorem dX3_stepBack_10 : decode cX3_stepBack 10 = .ok (.aload_n 0, 1) := dec_0 oX3_stepBack (of42 _) rfl
theorem dX3_stepBack_11 : decode cX3_stepBack 11 = .ok (.aload_n 0, 1) := dec_0 oX3_stepBack (of42 _) rfl
theorem dX3_stepBack_12 : decode cX3_stepBack 12 = .ok (.getfield 23, 3) := dec_2 oX3_stepBack (of180 _) 0 23 rfl rfl
theorem dX3_stepBack_15 : decode cX3_stepBack 15 = .ok (.ifCond .ne 8, 3) := dec_s2 oX3_stepBack (of154 _) 0 8 rfl (sg16p rfl) rfl
theorem dX3_stepBack_18 : decode cX3_stepBack 18 = .ok (.bipush 39, 2) := dec_s1 oX3_stepBack (of16 _) 39 rfl (sg8p rfl) rfl
theorem dX3_stepBack_20 : decode cX3_stepBack 20 = .ok (.goto 9, 3) := dec_s2 oX3_stepBack (of167 _) 0 9 rfl (sg16p rfl) rfl
theorem dX3_stepBack_23 : decode cX3_stepBack 23 = .ok (.aload_n 0, 1) := dec_0 oX3_stepBack (of42 _) rfl
theorem dX3_stepBack_24 : decode cX3_stepBack 24 = .ok (.getfield 23, 3) := dec_2 oX3_stepBack (of180 _) 0 23 rfl rfl
theorem dX3_stepBack_27 : decode cX3_stepBack 27 = .ok (.iconst 1, 1) := dec_0 oX3_stepBack (of4 _) rfl
theorem dX3_stepBack_28 : decode cX3_stepBack 28 = .ok (.isub, 1) := dec_0 oX3_stepBack (of100 _) rfl
theorem dX3_stepBack_29 : decode cX3_stepBack 29 = .ok (.putfield 23, 3) := dec_2 oX3_stepBack (of181 _) 0 23 rfl rfl
theorem dX3_stepBack_32 : decode cX3_stepBack 32 = .ok (.aload_n 0, 1) := dec_0 oX3_stepBack (of42 _) rfl
theorem dX3_stepBack_33 : decode cX3_stepBack 33 = .ok (.dup, 1) := dec_0 oX3_stepBack (of89 _) rfl
theorem dX3_stepBack_34 : decode cX3_stepBack 34 = .ok (.getfield 19, 3) := dec_2 oX3_stepBack (of180 _) 0 19 rfl rfl
theorem dX3_stepBack_37 : decode cX3_stepBack 37 = .ok (.iconst 1, 1) := dec_0 oX3_stepBack (of4 _) rfl
theorem dX3_stepBack_38 : decode cX3_stepBack 38 = .ok (.isub, 1) := dec_0 oX3_stepBack (of100 _) rfl
theorem dX3_stepBack_39 : decode cX3_stepBack 39 = .ok (.putfield 19, 3) := dec_2 oX3_stepBack (of181 _) 0 19 rfl rfl
theorem dX3_stepBack_42 : decode cX3_stepBack 42 = .ok (.iconst 1, 1) := dec_0 oX3_stepBack (of4 _) rfl
theorem dX3_stepBack_43 : decode cX3_stepBack 43 = .ok (.ireturn, 1) := dec_0 oX3_stepBack (of172 _) rfl
theorem dX3_valueIn_0 : decode cX3_valueIn 0 = .ok (.iload_n 1, 1) := dec_0 oX3_valueIn (of27 _) rfl
theorem dX3_valueIn_1 : decode cX3_valueIn 1 = .ok (.ifCond .lt 15, 3) := dec_s2 oX3_valueIn (of155 _) 0 15 rfl (sg16p rfl) rfl
theorem dX3_valueIn_4 : decode cX3_valueIn 4 = .ok (.iload_n 1, 1) := dec_0 oX3_valueIn (of27 _) rfl
theorem dX3_valueIn_5 : decode cX3_valueIn 5 = .ok (.aload_n 0, 1) := dec_0 oX3_valueIn (of42 _) rfl
theorem dX3_valueIn_6 : decode cX3_valueIn 6 = .ok (.arraylength, 1) := dec_0 oX3_valueIn (of190 _) rfl
theorem dX3_valueIn_7 : decode cX3_valueIn 7 = .ok (.if_icmp .ge 9, 3) := dec_s2 oX3_valueIn (of162 _) 0 9 rfl (sg16p rfl) rfl
theorem dX3_valueIn_10 : decode cX3_valueIn 10 = .ok (.aload_n 0, 1) := dec_0 oX3_valueIn (of42 _) rfl
theorem dX3_valueIn_11 : decode cX3_valueIn 11 = .ok (.iload_n 1, 1) := dec_0 oX3_valueIn (of27 _) rfl
theorem dX3_valueIn_12 : decode cX3_valueIn 12 = .ok (.iaload, 1) := dec_0 oX3_valueIn (of46 _) rfl
theorem dX3_valueIn_13 : decode cX3_valueIn 13 = .ok (.goto 4, 3) := dec_s2 oX3_valueIn (of167 _) 0 4 rfl (sg16p rfl) rfl
theorem dX3_valueIn_16 : decode cX3_valueIn 16 = .ok (.iconst 0, 1) := dec_0 oX3_valueIn (of3 _) rfl
theorem dX3_valueIn_17 : decode cX3_valueIn 17 = .ok (.ireturn, 1) := dec_0 oX3_valueIn (of172 _) rfl
theorem dX3_kindOfStep_0 : decode cX3_kindOfStep 0 = .ok (.aload_n 0, 1) := dec_0 oX3_kindOfStep (of42 _) rfl
theorem dX3_kindOfStep_1 : decode cX3_kindOfStep 1 = .ok (.getfield 9, 3) := dec_2 oX3_kindOfStep (of180 _) 0 9 rfl rfl
theorem dX3_kindOfStep_4 : decode cX3_kindOfStep 4 = .ok (.aload_n 0, 1) := dec_0 oX3_kindOfStep (of42 _) rfl
theorem dX3_kindOfStep_5 : decode cX3_kindOfStep 5 = .ok (.getfield 23, 3) := dec_2 oX3_kindOfStep (of180 _) 0 23 rfl rfl
theorem dX3_kindOfStep_8 : decode cX3_kindOfStep 8 = .ok (.invokestatic 32, 3) := dec_2 oX3_kindOfStep (of184 _) 0 32 rfl rfl
theorem dX3_kindOfStep_11 : decode cX3_kindOfStep 11 = .ok (.ireturn, 1) := dec_0 oX3_kindOfStep (of172 _) rfl
theorem dX3_firstOfStep_0 : decode cX3_firstOfStep 0 = .ok (.aload_n 0, 1) := dec_0 oX3_firstOfStep (of42 _) rfl
theorem dX3_firstOfStep_1 : decode cX3_firstOfStep 1 = .ok (.getfield 13, 3) := dec_2 oX3_firstOfStep (of180 _) 0 13 rfl rfl
theorem dX3_firstOfStep_4 : decode cX3_firstOfStep 4 = .ok (.aload_n 0, 1) := dec_0 oX3_firstOfStep (of42 _) rfl
theorem dX3_firstOfStep_5 : decode cX3_firstOfStep 5 = .ok (.getfield 23, 3) := dec_2 oX3_firstOfStep (of180 _) 0 23 rfl rfl
theorem dX3_firstOfStep_8 : decode cX3_firstOfStep 8 = .ok (.invokestatic 32, 3) := dec_2 oX3_firstOfStep (of184 _) 0 32 rfl rfl
theorem dX3_firstOfStep_11 : decode cX3_firstOfStep 11 = .ok (.ireturn, 1) := dec_0 oX3_firstOfStep (of172 _) rfl
theorem dX3_secondOfStep_0 : decode cX3_secondOfStep 0 = .ok (.aload_n 0, 1) := dec_0 oX3_secondOfStep (of42 _) rfl
theorem dX3_secondOfStep_1 : decode cX3_secondOfStep 1 = .ok (.getfield 16, 3) := dec_2 oX3_secondOfStep (of180 _) 0 16 rfl rfl
theorem dX3_secondOfStep_4 : decode cX3_secondOfStep 4 = .ok (.aload_n 0, 1) := dec_0 oX3_secondOfStep (of42 _) rfl
theorem dX3_secondOfStep_5 : decode cX3_secondOfStep 5 = .ok (.getfield 23, 3) := dec_2 oX3_secondOfStep (of180 _) 0 23 rfl rfl
theorem dX3_secondOfStep_8 : decode cX3_secondOfStep 8 = .ok (.invokestatic 32, 3) := dec_2 oX3_secondOfStep (of184 _) 0 32 rfl rfl
theorem dX3_secondOfStep_11 : decode cX3_secondOfStep 11 = .ok (.ireturn, 1) := dec_0 oX3_secondOfStep (of172 _) rfl
theorem dX4_has_12 : decode cX4_has 12 = .ok (.iload_n 1, 1) := dec_0 oX4_has (of27 _) rfl
theorem dX4_has_13 : decode cX4_has 13 = .ok (.iconst 5, 1) := dec_0 oX4_has (of8 _) rfl
theorem dX4_has_14 : decode cX4_has 14 = .ok (.if_icmp .ge 7, 3) := dec_s2 oX4_has (of162 _) 0 7 rfl (sg16p rfl) rfl
theorem dX4_has_17 : decode cX4_has 17 = .ok (.iconst 1, 1) := dec_0 oX4_has (of4 _) rfl
theorem dX4_has_18 : decode cX4_has 18 = .ok (.goto 4, 3) := dec_s2 oX4_has (of167 _) 0 4 rfl (sg16p rfl) rfl
theorem dX4_lengthOf_8 : decode cX4_lengthOf 8 = .ok (.aload_n 0, 1) := dec_0 oX4_lengthOf (of42 _) rfl
theorem dX4_lengthOf_9 : decode cX4_lengthOf 9 = .ok (.getfield 15, 3) := dec_2 oX4_lengthOf (of180 _) 0 15 rfl rfl
theorem dX4_lengthOf_12 : decode cX4_lengthOf 12 = .ok (.iload_n 1, 1) := dec_0 oX4_lengthOf (of27 _) rfl
theorem dX4_lengthOf_13 : decode cX4_lengthOf 13 = .ok (.iaload, 1) := dec_0 oX4_lengthOf (of46 _) rfl
theorem dX4_lengthOf_14 : decode cX4_lengthOf 14 = .ok (.goto 4, 3) := dec_s2 oX4_lengthOf (of167 _) 0 4 rfl (sg16p rfl) rfl
theorem dX4_valueAt_19 : decode cX4_valueAt 19 = .ok (.aload_n 0, 1) := dec_0 oX4_valueAt (of42 _) rfl
theorem dX4_valueAt_20 : decode cX4_valueAt 20 = .ok (.getfield 9, 3) := dec_2 oX4_valueAt (of180 _) 0 9 rfl rfl
theorem dX4_valueAt_23 : decode cX4_valueAt 23 = .ok (.iload_n 1, 1) := dec_0 oX4_valueAt (of27 _) rfl
theorem dX4_valueAt_24 : decode cX4_valueAt 24 = .ok (.bipush 16, 2) := dec_s1 oX4_valueAt (of16 _) 16 rfl (sg8p rfl) rfl
theorem dX4_valueAt_26 : decode cX4_valueAt 26 = .ok (.imul, 1) := dec_0 oX4_valueAt (of104 _) rfl
theorem dX4_valueAt_27 : decode cX4_valueAt 27 = .ok (.iload_n 2, 1) := dec_0 oX4_valueAt (of28 _) rfl
theorem dX4_valueAt_28 : decode cX4_valueAt 28 = .ok (.iadd, 1) := dec_0 oX4_valueAt (of96 _) rfl
theorem dX4_valueAt_29 : decode cX4_valueAt 29 = .ok (.iaload, 1) := dec_0 oX4_valueAt (of46 _) rfl
theorem dX4_valueAt_30 : decode cX4_valueAt 30 = .ok (.goto 6, 3) := dec_s2 oX4_valueAt (of167 _) 0 6 rfl (sg16p rfl) rfl
theorem dX4_open_0 : decode cX4_open 0 = .ok (.aload_n 0, 1) := dec_0 oX4_open (of42 _) rfl
theorem dX4_open_1 : decode cX4_open 1 = .ok (.getfield 18, 3) := dec_2 oX4_open (of180 _) 0 18 rfl rfl
theorem dX4_open_4 : decode cX4_open 4 = .ok (.ifCond .lt 31, 3) := dec_s2 oX4_open (of155 _) 0 31 rfl (sg16p rfl) rfl
theorem dX4_open_7 : decode cX4_open 7 = .ok (.aload_n 0, 1) := dec_0 oX4_open (of42 _) rfl
theorem dX4_open_8 : decode cX4_open 8 = .ok (.getfield 18, 3) := dec_2 oX4_open (of180 _) 0 18 rfl rfl
theorem dX4_open_11 : decode cX4_open 11 = .ok (.iconst 5, 1) := dec_0 oX4_open (of8 _) rfl
theorem dX4_open_12 : decode cX4_open 12 = .ok (.if_icmp .ge 23, 3) := dec_s2 oX4_open (of162 _) 0 23 rfl (sg16p rfl) rfl
theorem dX4_open_15 : decode cX4_open 15 = .ok (.aload_n 0, 1) := dec_0 oX4_open (of42 _) rfl
theorem dX4_open_16 : decode cX4_open 16 = .ok (.getfield 15, 3) := dec_2 oX4_open (of180 _) 0 15 rfl rfl
theorem dX4_open_19 : decode cX4_open 19 = .ok (.aload_n 0, 1) := dec_0 oX4_open (of42 _) rfl
theorem dX4_open_20 : decode cX4_open 20 = .ok (.getfield 18, 3) := dec_2 oX4_open (of180 _) 0 18 rfl rfl
theorem dX4_open_23 : decode cX4_open 23 = .ok (.iconst 0, 1) := dec_0 oX4_open (of3 _) rfl
theorem dX4_open_24 : decode cX4_open 24 = .ok (.iastore, 1) := dec_0 oX4_open (of79 _) rfl
theorem dX4_open_25 : decode cX4_open 25 = .ok (.aload_n 0, 1) := dec_0 oX4_open (of42 _) rfl
theorem dX4_open_26 : decode cX4_open 26 = .ok (.dup, 1) := dec_0 oX4_open (of89 _) rfl
theorem dX4_open_27 : decode cX4_open 27 = .ok (.getfield 18, 3) := dec_2 oX4_open (of180 _) 0 18 rfl rfl
theorem dX4_open_30 : decode cX4_open 30 = .ok (.iconst 1, 1) := dec_0 oX4_open (of4 _) rfl
theorem dX4_open_31 : decode cX4_open 31 = .ok (.iadd, 1) := dec_0 oX4_open (of96 _) rfl
theorem dX4_open_32 : decode cX4_open 32 = .ok (.putfield 18, 3) := dec_2 oX4_open (of181 _) 0 18 rfl rfl
theorem dX4_open_35 : decode cX4_open 35 = .ok (.return_, 1) := dec_0 oX4_open (of177 _) rfl
theorem dX4_append_0 : decode cX4_append 0 = .ok (.aload_n 0, 1) := dec_0 oX4_append (of42 _) rfl
theorem dX4_append_1 : decode cX4_append 1 = .ok (.getfield 18, 3) := dec_2 oX4_append (of180 _) 0 18 rfl rfl
theorem dX4_append_4 : decode cX4_append 4 = .ok (.iconst 1, 1) := dec_0 oX4_append (of4 _) rfl
theorem dX4_append_5 : decode cX4_append 5 = .ok (.isub, 1) := dec_0 oX4_append (of100 _) rfl
theorem dX4_append_6 : decode cX4_append 6 = .ok (.istore_n 2, 1) := dec_0 oX4_append (of61 _) rfl
theorem dX4_append_7 : decode cX4_append 7 = .ok (.aload_n 0, 1) := dec_0 oX4_append (of42 _) rfl
theorem dX4_append_8 : decode cX4_append 8 = .ok (.iload_n 2, 1) := dec_0 oX4_append (of28 _) rfl
theorem dX4_append_9 : decode cX4_append 9 = .ok (.invokevirtual 22, 3) := dec_2 oX4_append (of182 _) 0 22 rfl rfl
theorem dX4_append_12 : decode cX4_append 12 = .ok (.ifCond .eq 41, 3) := dec_s2 oX4_append (of153 _) 0 41 rfl (sg16p rfl) rfl
theorem dX4_append_15 : decode cX4_append 15 = .ok (.aload_n 0, 1) := dec_0 oX4_append (of42 _) rfl
theorem dX4_append_16 : decode cX4_append 16 = .ok (.getfield 15, 3) := dec_2 oX4_append (of180 _) 0 15 rfl rfl
theorem dX4_append_19 : decode cX4_append 19 = .ok (.iload_n 2, 1) := dec_0 oX4_append (of28 _) rfl
theorem dX4_append_20 : decode cX4_append 20 = .ok (.iaload, 1) := dec_0 oX4_append (of46 _) rfl
theorem dX4_append_21 : decode cX4_append 21 = .ok (.bipush 16, 2) := dec_s1 oX4_append (of16 _) 16 rfl (sg8p rfl) rfl
theorem dX4_append_23 : decode cX4_append 23 = .ok (.if_icmp .ge 30, 3) := dec_s2 oX4_append (of162 _) 0 30 rfl (sg16p rfl) rfl
theorem dX4_append_26 : decode cX4_append 26 = .ok (.aload_n 0, 1) := dec_0 oX4_append (of42 _) rfl
theorem dX4_append_27 : decode cX4_append 27 = .ok (.getfield 9, 3) := dec_2 oX4_append (of180 _) 0 9 rfl rfl
theorem dX4_append_30 : decode cX4_append 30 = .ok (.iload_n 2, 1) := dec_0 oX4_append (of28 _) rfl
theorem dX4_append_31 : decode cX4_append 31 = .ok (.bipush 16, 2) := dec_s1 oX4_append (of16 _) 16 rfl (sg8p rfl) rfl
theorem dX4_append_33 : decode cX4_append 33 = .ok (.imul, 1) := dec_0 oX4_append (of104 _) rfl
theorem dX4_append_34 : decode cX4_append 34 = .ok (.aload_n 0, 1) := dec_0 oX4_append (of42 _) rfl
theorem dX4_append_35 : decode cX4_append 35 = .ok (.getfield 15, 3) := dec_2 oX4_append (of180 _) 0 15 rfl rfl
theorem dX4_append_38 : decode cX4_append 38 = .ok (.iload_n 2, 1) := dec_0 oX4_append (of28 _) rfl
theorem dX4_append_39 : decode cX4_append 39 = .ok (.iaload, 1) := dec_0 oX4_append (of46 _) rfl
theorem dX4_append_40 : decode cX4_append 40 = .ok (.iadd, 1) := dec_0 oX4_append (of96 _) rfl
theorem dX4_append_41 : decode cX4_append 41 = .ok (.iload_n 1, 1) := dec_0 oX4_append (of27 _) rfl
theorem dX4_append_42 : decode cX4_append 42 = .ok (.iastore, 1) := dec_0 oX4_append (of79 _) rfl
theorem dX4_append_43 : decode cX4_append 43 = .ok (.aload_n 0, 1) := dec_0 oX4_append (of42 _) rfl
theorem dX4_append_44 : decode cX4_append 44 = .ok (.getfield 15, 3) := dec_2 oX4_append (of180 _) 0 15 rfl rfl
theorem dX4_append_47 : decode cX4_append 47 = .ok (.iload_n 2, 1) := dec_0 oX4_append (of28 _) rfl
theorem dX4_append_48 : decode cX4_append 48 = .ok (.dup2, 1) := dec_0 oX4_append (of92 _) rfl
theorem dX4_append_49 : decode cX4_append 49 = .ok (.iaload, 1) := dec_0 oX4_append (of46 _) rfl
theorem dX4_append_50 : decode cX4_append 50 = .ok (.iconst 1, 1) := dec_0 oX4_append (of4 _) rfl
theorem dX4_append_51 : decode cX4_append 51 = .ok (.iadd, 1) := dec_0 oX4_append (of96 _) rfl
theorem dX4_append_52 : decode cX4_append 52 = .ok (.iastore, 1) := dec_0 oX4_append (of79 _) rfl
theorem dX4_append_53 : decode cX4_append 53 = .ok (.return_, 1) := dec_0 oX4_append (of177 _) rfl
theorem dX4_takeFrom_15 : decode cX4_takeFrom 15 = .ok (.aload_n 0, 1) := dec_0 oX4_takeFrom (of42 _) rfl
theorem dX4_takeFrom_16 : decode cX4_takeFrom 16 = .ok (.invokevirtual 30, 3) := dec_2 oX4_takeFrom (of182 _) 0 30 rfl rfl
theorem dX4_takeFrom_19 : decode cX4_takeFrom 19 = .ok (.iconst 0, 1) := dec_0 oX4_takeFrom (of3 _) rfl
theorem dX4_takeFrom_20 : decode cX4_takeFrom 20 = .ok (.istore_n 3, 1) := dec_0 oX4_takeFrom (of62 _) rfl
theorem dX4_takeFrom_21 : decode cX4_takeFrom 21 = .ok (.iload_n 3, 1) := dec_0 oX4_takeFrom (of29 _) rfl
theorem dX4_takeFrom_22 : decode cX4_takeFrom 22 = .ok (.aload_n 1, 1) := dec_0 oX4_takeFrom (of43 _) rfl
theorem dX4_takeFrom_23 : decode cX4_takeFrom 23 = .ok (.iload_n 2, 1) := dec_0 oX4_takeFrom (of28 _) rfl
theorem dX4_takeFrom_24 : decode cX4_takeFrom 24 = .ok (.invokevirtual 26, 3) := dec_2 oX4_takeFrom (of182 _) 0 26 rfl rfl
theorem dX4_takeFrom_27 : decode cX4_takeFrom 27 = .ok (.if_icmp .ge 19, 3) := dec_s2 oX4_takeFrom (of162 _) 0 19 rfl (sg16p rfl) rfl
theorem dX4_takeFrom_30 : decode cX4_takeFrom 30 = .ok (.aload_n 0, 1) := dec_0 oX4_takeFrom (of42 _) rfl
theorem dX4_takeFrom_31 : decode cX4_takeFrom 31 = .ok (.aload_n 1, 1) := dec_0 oX4_takeFrom (of43 _) rfl
theorem dX4_takeFrom_32 : decode cX4_takeFrom 32 = .ok (.iload_n 2, 1) := dec_0 oX4_takeFrom (of28 _) rfl
theorem dX4_takeFrom_33 : decode cX4_takeFrom 33 = .ok (.iload_n 3, 1) := dec_0 oX4_takeFrom (of29 _) rfl
theorem dX4_takeFrom_34 : decode cX4_takeFrom 34 = .ok (.invokevirtual 33, 3) := dec_2 oX4_takeFrom (of182 _) 0 33 rfl rfl
theorem dX4_takeFrom_37 : decode cX4_takeFrom 37 = .ok (.invokevirtual 37, 3) := dec_2 oX4_takeFrom (of182 _) 0 37 rfl rfl
theorem dX4_takeFrom_40 : decode cX4_takeFrom 40 = .ok (.iinc 3 1, 3) := dec_ii oX4_takeFrom (of132 _) 3 1 rfl (sg8p rfl) rfl
theorem dX4_takeFrom_43 : decode cX4_takeFrom 43 = .ok (.goto (-22), 3) := dec_s2 oX4_takeFrom (of167 _) 255 234 rfl (sg16n (k := 22) rfl) rfl
theorem dX4_takeFrom_46 : decode cX4_takeFrom 46 = .ok (.iinc 2 1, 3) := dec_ii oX4_takeFrom (of132 _) 2 1 rfl (sg8p rfl) rfl
theorem dX4_takeFrom_49 : decode cX4_takeFrom 49 = .ok (.goto (-42), 3) := dec_s2 oX4_takeFrom (of167 _) 255 214 rfl (sg16n (k := 42) rfl) rfl
theorem dX4_copyQuery_0 : decode cX4_copyQuery 0 = .ok (.iconst 0, 1) := dec_0 oX4_copyQuery (of3 _) rfl
theorem dX4_copyQuery_1 : decode cX4_copyQuery 1 = .ok (.istore_n 3, 1) := dec_0 oX4_copyQuery (of62 _) rfl
theorem dX4_copyQuery_2 : decode cX4_copyQuery 2 = .ok (.iload_n 3, 1) := dec_0 oX4_copyQuery (of29 _) rfl
theorem dX4_copyQuery_3 : decode cX4_copyQuery 3 = .ok (.aload_n 0, 1) := dec_0 oX4_copyQuery (of42 _) rfl
theorem dX4_copyQuery_4 : decode cX4_copyQuery 4 = .ok (.iload_n 1, 1) := dec_0 oX4_copyQuery (of27 _) rfl
theorem dX4_copyQuery_5 : decode cX4_copyQuery 5 = .ok (.invokevirtual 26, 3) := dec_2 oX4_copyQuery (of182 _) 0 26 rfl rfl
theorem dX4_copyQuery_8 : decode cX4_copyQuery 8 = .ok (.if_icmp .ge 24, 3) := dec_s2 oX4_copyQuery (of162 _) 0 24 rfl (sg16p rfl) rfl
theorem dX4_copyQuery_11 : decode cX4_copyQuery 11 = .ok (.iload_n 3, 1) := dec_0 oX4_copyQuery (of29 _) rfl
theorem dX4_copyQuery_12 : decode cX4_copyQuery 12 = .ok (.aload_n 2, 1) := dec_0 oX4_copyQuery (of44 _) rfl
theorem dX4_copyQuery_13 : decode cX4_copyQuery 13 = .ok (.arraylength, 1) := dec_0 oX4_copyQuery (of190 _) rfl
theorem dX4_copyQuery_14 : decode cX4_copyQuery 14 = .ok (.if_icmp .ge 18, 3) := dec_s2 oX4_copyQuery (of162 _) 0 18 rfl (sg16p rfl) rfl
theorem dX4_copyQuery_17 : decode cX4_copyQuery 17 = .ok (.aload_n 2, 1) := dec_0 oX4_copyQuery (of44 _) rfl
theorem dX4_copyQuery_18 : decode cX4_copyQuery 18 = .ok (.iload_n 3, 1) := dec_0 oX4_copyQuery (of29 _) rfl
theorem dX4_copyQuery_19 : decode cX4_copyQuery 19 = .ok (.aload_n 0, 1) := dec_0 oX4_copyQuery (of42 _) rfl
theorem dX4_copyQuery_20 : decode cX4_copyQuery 20 = .ok (.iload_n 1, 1) := dec_0 oX4_copyQuery (of27 _) rfl
theorem dX4_copyQuery_21 : decode cX4_copyQuery 21 = .ok (.iload_n 3, 1) := dec_0 oX4_copyQuery (of29 _) rfl
theorem dX4_copyQuery_22 : decode cX4_copyQuery 22 = .ok (.invokevirtual 33, 3) := dec_2 oX4_copyQuery (of182 _) 0 33 rfl rfl
theorem dX4_copyQuery_25 : decode cX4_copyQuery 25 = .ok (.iastore, 1) := dec_0 oX4_copyQuery (of79 _) rfl
theorem dX4_copyQuery_26 : decode cX4_copyQuery 26 = .ok (.iinc 3 1, 3) := dec_ii oX4_copyQuery (of132 _) 3 1 rfl (sg8p rfl) rfl
theorem dX4_copyQuery_29 : decode cX4_copyQuery 29 = .ok (.goto (-27), 3) := dec_s2 oX4_copyQuery (of167 _) 255 229 rfl (sg16n (k := 27) rfl) rfl
theorem dX4_copyQuery_32 : decode cX4_copyQuery 32 = .ok (.return_, 1) := dec_0 oX4_copyQuery (of177 _) rfl
theorem dX5_readText_30 : decode cX5_readText 30 = .ok (.aload_n 0, 1) := dec_0 oX5_readText (of42 _) rfl
theorem dX5_readText_31 : decode cX5_readText 31 = .ok (.invokevirtual 58, 3) := dec_2 oX5_readText (of182 _) 0 58 rfl rfl
theorem dX5_readText_34 : decode cX5_readText 34 = .ok (.ifCond .ne 11, 3) := dec_s2 oX5_readText (of154 _) 0 11 rfl (sg16p rfl) rfl
theorem dX5_readText_37 : decode cX5_readText 37 = .ok (.aload_n 0, 1) := dec_0 oX5_readText (of42 _) rfl
theorem dX5_readText_38 : decode cX5_readText 38 = .ok (.iconst 1, 1) := dec_0 oX5_readText (of4 _) rfl
theorem dX5_readText_39 : decode cX5_readText 39 = .ok (.invokevirtual 62, 3) := dec_2 oX5_readText (of182 _) 0 62 rfl rfl
theorem dX5_readText_42 : decode cX5_readText 42 = .ok (.goto 29, 3) := dec_s2 oX5_readText (of167 _) 0 29 rfl (sg16p rfl) rfl
theorem dX5_readText_45 : decode cX5_readText 45 = .ok (.aload_n 0, 1) := dec_0 oX5_readText (of42 _) rfl
theorem dX5_readText_46 : decode cX5_readText 46 = .ok (.invokevirtual 66, 3) := dec_2 oX5_readText (of182 _) 0 66 rfl rfl
theorem dX5_readText_49 : decode cX5_readText 49 = .ok (.ifCond .ne 11, 3) := dec_s2 oX5_readText (of154 _) 0 11 rfl (sg16p rfl) rfl
theorem dX5_readText_52 : decode cX5_readText 52 = .ok (.aload_n 0, 1) := dec_0 oX5_readText (of42 _) rfl
theorem dX5_readText_53 : decode cX5_readText 53 = .ok (.iconst 2, 1) := dec_0 oX5_readText (of5 _) rfl
theorem dX5_readText_54 : decode cX5_readText 54 = .ok (.invokevirtual 62, 3) := dec_2 oX5_readText (of182 _) 0 62 rfl rfl
theorem dX5_readText_57 : decode cX5_readText 57 = .ok (.goto 14, 3) := dec_s2 oX5_readText (of167 _) 0 14 rfl (sg16p rfl) rfl
theorem dX5_readText_60 : decode cX5_readText 60 = .ok (.aload_n 0, 1) := dec_0 oX5_readText (of42 _) rfl
theorem dX5_readText_61 : decode cX5_readText 61 = .ok (.invokevirtual 69, 3) := dec_2 oX5_readText (of182 _) 0 69 rfl rfl
theorem dX5_readText_64 : decode cX5_readText 64 = .ok (.aload_n 0, 1) := dec_0 oX5_readText (of42 _) rfl
theorem dX5_readText_65 : decode cX5_readText 65 = .ok (.getfield 42, 3) := dec_2 oX5_readText (of180 _) 0 42 rfl rfl
theorem dX5_readText_68 : decode cX5_readText 68 = .ok (.invokevirtual 72, 3) := dec_2 oX5_readText (of182 _) 0 72 rfl rfl
theorem dX5_readText_71 : decode cX5_readText 71 = .ok (.iinc 1 1, 3) := dec_ii oX5_readText (of132 _) 1 1 rfl (sg8p rfl) rfl
theorem dX5_readText_74 : decode cX5_readText 74 = .ok (.goto (-68), 3) := dec_s2 oX5_readText (of167 _) 255 188 rfl (sg16n (k := 68) rfl) rfl
theorem dX5_readText_91 : decode cX5_readText 91 = .ok (.aload_n 0, 1) := dec_0 oX5_readText (of42 _) rfl
theorem dX5_readText_92 : decode cX5_readText 92 = .ok (.iconst 1, 1) := dec_0 oX5_readText (of4 _) rfl
theorem dX5_readText_93 : decode cX5_readText 93 = .ok (.invokevirtual 62, 3) := dec_2 oX5_readText (of182 _) 0 62 rfl rfl
theorem dX5_stop_0 : decode cX5_stop 0 = .ok (.aload_n 0, 1) := dec_0 oX5_stop (of42 _) rfl
theorem dX5_stop_1 : decode cX5_stop 1 = .ok (.iconst 1, 1) := dec_0 oX5_stop (of4 _) rfl
theorem dX5_stop_2 : decode cX5_stop 2 = .ok (.putfield 49, 3) := dec_2 oX5_stop (of181 _) 0 49 rfl rfl
theorem dX5_stop_5 : decode cX5_stop 5 = .ok (.aload_n 0, 1) := dec_0 oX5_stop (of42 _) rfl
theorem dX5_stop_6 : decode cX5_stop 6 = .ok (.iload_n 1, 1) := dec_0 oX5_stop (of27 _) rfl
theorem dX5_stop_7 : decode cX5_stop 7 = .ok (.invokevirtual 93, 3) := dec_2 oX5_stop (of182 _) 0 93 rfl rfl
theorem dX5_stop_10 : decode cX5_stop 10 = .ok (.return_, 1) := dec_0 oX5_stop (of177 _) rfl
theorem dX5_mark_0 : decode cX5_mark 0 = .ok (.aload_n 0, 1) := dec_0 oX5_mark (of42 _) rfl
theorem dX5_mark_1 : decode cX5_mark 1 = .ok (.getfield 78, 3) := dec_2 oX5_mark (of180 _) 0 78 rfl rfl
theorem dX5_mark_4 : decode cX5_mark 4 = .ok (.ifCond .ne 8, 3) := dec_s2 oX5_mark (of154 _) 0 8 rfl (sg16p rfl) rfl
theorem dX5_mark_7 : decode cX5_mark 7 = .ok (.aload_n 0, 1) := dec_0 oX5_mark (of42 _) rfl
theorem dX5_mark_8 : decode cX5_mark 8 = .ok (.iload_n 1, 1) := dec_0 oX5_mark (of27 _) rfl
theorem dX5_mark_9 : decode cX5_mark 9 = .ok (.invokevirtual 93, 3) := dec_2 oX5_mark (of182 _) 0 93 rfl rfl
theorem dX5_mark_12 : decode cX5_mark 12 = .ok (.return_, 1) := dec_0 oX5_mark (of177 _) rfl
theorem dX5_keepFault_0 : decode cX5_keepFault 0 = .ok (.aload_n 0, 1) := dec_0 oX5_keepFault (of42 _) rfl
theorem dX5_keepFault_1 : decode cX5_keepFault 1 = .ok (.iload_n 1, 1) := dec_0 oX5_keepFault (of27 _) rfl
theorem dX5_keepFault_2 : decode cX5_keepFault 2 = .ok (.putfield 78, 3) := dec_2 oX5_keepFault (of181 _) 0 78 rfl rfl
theorem dX5_keepFault_5 : decode cX5_keepFault 5 = .ok (.aload_n 0, 1) := dec_0 oX5_keepFault (of42 _) rfl
theorem dX5_keepFault_6 : decode cX5_keepFault 6 = .ok (.aload_n 0, 1) := dec_0 oX5_keepFault (of42 _) rfl
theorem dX5_keepFault_7 : decode cX5_keepFault 7 = .ok (.getfield 42, 3) := dec_2 oX5_keepFault (of180 _) 0 42 rfl rfl
theorem dX5_keepFault_10 : decode cX5_keepFault 10 = .ok (.getfield 96, 3) := dec_2 oX5_keepFault (of180 _) 0 96 rfl rfl
theorem dX5_keepFault_13 : decode cX5_keepFault 13 = .ok (.putfield 36, 3) := dec_2 oX5_keepFault (of181 _) 0 36 rfl rfl
theorem dX5_keepFault_16 : decode cX5_keepFault 16 = .ok (.aload_n 0, 1) := dec_0 oX5_keepFault (of42 _) rfl
theorem dX5_keepFault_17 : decode cX5_keepFault 17 = .ok (.aload_n 0, 1) := dec_0 oX5_keepFault (of42 _) rfl
theorem dX5_keepFault_18 : decode cX5_keepFault 18 = .ok (.getfield 32, 3) := dec_2 oX5_keepFault (of180 _) 0 32 rfl rfl
theorem dX5_keepFault_21 : decode cX5_keepFault 21 = .ok (.putfield 39, 3) := dec_2 oX5_keepFault (of181 _) 0 39 rfl rfl
theorem dX5_keepFault_24 : decode cX5_keepFault 24 = .ok (.return_, 1) := dec_0 oX5_keepFault (of177 _) rfl
theorem dX5_mayStand_0 : decode cX5_mayStand 0 = .ok (.aload_n 0, 1) := dec_0 oX5_mayStand (of42 _) rfl
theorem dX5_mayStand_1 : decode cX5_mayStand 1 = .ok (.getfield 75, 3) := dec_2 oX5_mayStand (of180 _) 0 75 rfl rfl
theorem dX5_mayStand_4 : decode cX5_mayStand 4 = .ok (.tableswitch 125 0 5 #[40, 53, 90, 85, 95, 112], 40) := by decide +kernel
theorem dX5_mayStand_44 : decode cX5_mayStand 44 = .ok (.aload_n 0, 1) := dec_0 oX5_mayStand (of42 _) rfl
theorem dX5_mayStand_45 : decode cX5_mayStand 45 = .ok (.invokevirtual 99, 3) := dec_2 oX5_mayStand (of182 _) 0 99 rfl rfl
theorem dX5_mayStand_48 : decode cX5_mayStand 48 = .ok (.ifCond .lt 7, 3) := dec_s2 oX5_mayStand (of155 _) 0 7 rfl (sg16p rfl) rfl
theorem dX5_mayStand_51 : decode cX5_mayStand 51 = .ok (.iconst 1, 1) := dec_0 oX5_mayStand (of4 _) rfl
theorem dX5_mayStand_52 : decode cX5_mayStand 52 = .ok (.goto 4, 3) := dec_s2 oX5_mayStand (of167 _) 0 4 rfl (sg16p rfl) rfl
theorem dX5_mayStand_55 : decode cX5_mayStand 55 = .ok (.iconst 0, 1) := dec_0 oX5_mayStand (of3 _) rfl
theorem dX5_mayStand_56 : decode cX5_mayStand 56 = .ok (.ireturn, 1) := dec_0 oX5_mayStand (of172 _) rfl
theorem dX5_mayStand_57 : decode cX5_mayStand 57 = .ok (.aload_n 0, 1) := dec_0 oX5_mayStand (of42 _) rfl
theorem dX5_mayStand_58 : decode cX5_mayStand 58 = .ok (.invokevirtual 103, 3) := dec_2 oX5_mayStand (of182 _) 0 103 rfl rfl
theorem dX5_mayStand_61 : decode cX5_mayStand 61 = .ok (.ifCond .ne 22, 3) := dec_s2 oX5_mayStand (of154 _) 0 22 rfl (sg16p rfl) rfl
theorem dX5_mayStand_64 : decode cX5_mayStand 64 = .ok (.aload_n 0, 1) := dec_0 oX5_mayStand (of42 _) rfl
theorem dX5_mayStand_65 : decode cX5_mayStand 65 = .ok (.getfield 87, 3) := dec_2 oX5_mayStand (of180 _) 0 87 rfl rfl
theorem dX5_mayStand_68 : decode cX5_mayStand 68 = .ok (.ifCond .ne 19, 3) := dec_s2 oX5_mayStand (of154 _) 0 19 rfl (sg16p rfl) rfl
theorem dX5_mayStand_71 : decode cX5_mayStand 71 = .ok (.aload_n 0, 1) := dec_0 oX5_mayStand (of42 _) rfl
theorem dX5_mayStand_72 : decode cX5_mayStand 72 = .ok (.getfield 42, 3) := dec_2 oX5_mayStand (of180 _) 0 42 rfl rfl
theorem dX5_mayStand_75 : decode cX5_mayStand 75 = .ok (.ldc 106, 2) := dec_1 oX5_mayStand (of18 _) 106 rfl rfl
theorem dX5_mayStand_77 : decode cX5_mayStand 77 = .ok (.invokevirtual 108, 3) := dec_2 oX5_mayStand (of182 _) 0 108 rfl rfl
theorem dX5_mayStand_80 : decode cX5_mayStand 80 = .ok (.ifCond .eq 7, 3) := dec_s2 oX5_mayStand (of153 _) 0 7 rfl (sg16p rfl) rfl
theorem dX5_mayStand_83 : decode cX5_mayStand 83 = .ok (.iconst 1, 1) := dec_0 oX5_mayStand (of4 _) rfl
theorem dX5_mayStand_84 : decode cX5_mayStand 84 = .ok (.goto 4, 3) := dec_s2 oX5_mayStand (of167 _) 0 4 rfl (sg16p rfl) rfl
theorem dX5_mayStand_87 : decode cX5_mayStand 87 = .ok (.iconst 0, 1) := dec_0 oX5_mayStand (of3 _) rfl
theorem dX5_mayStand_88 : decode cX5_mayStand 88 = .ok (.ireturn, 1) := dec_0 oX5_mayStand (of172 _) rfl
theorem dX5_mayStand_89 : decode cX5_mayStand 89 = .ok (.aload_n 0, 1) := dec_0 oX5_mayStand (of42 _) rfl
theorem dX5_mayStand_90 : decode cX5_mayStand 90 = .ok (.invokevirtual 103, 3) := dec_2 oX5_mayStand (of182 _) 0 103 rfl rfl
theorem dX5_mayStand_93 : decode cX5_mayStand 93 = .ok (.ireturn, 1) := dec_0 oX5_mayStand (of172 _) rfl
theorem dX5_mayStand_94 : decode cX5_mayStand 94 = .ok (.aload_n 0, 1) := dec_0 oX5_mayStand (of42 _) rfl
theorem dX5_mayStand_95 : decode cX5_mayStand 95 = .ok (.invokevirtual 112, 3) := dec_2 oX5_mayStand (of182 _) 0 112 rfl rfl
theorem dX5_mayStand_98 : decode cX5_mayStand 98 = .ok (.ireturn, 1) := dec_0 oX5_mayStand (of172 _) rfl
theorem dX5_mayStand_99 : decode cX5_mayStand 99 = .ok (.aload_n 0, 1) := dec_0 oX5_mayStand (of42 _) rfl
theorem dX5_mayStand_100 : decode cX5_mayStand 100 = .ok (.getfield 42, 3) := dec_2 oX5_mayStand (of180 _) 0 42 rfl rfl
theorem dX5_mayStand_103 : decode cX5_mayStand 103 = .ok (.getfield 53, 3) := dec_2 oX5_mayStand (of180 _) 0 53 rfl rfl
theorem dX5_mayStand_106 : decode cX5_mayStand 106 = .ok (.iconst 2, 1) := dec_0 oX5_mayStand (of5 _) rfl
theorem dX5_mayStand_107 : decode cX5_mayStand 107 = .ok (.if_icmp .ne 7, 3) := dec_s2 oX5_mayStand (of160 _) 0 7 rfl (sg16p rfl) rfl
theorem dX5_mayStand_110 : decode cX5_mayStand 110 = .ok (.iconst 1, 1) := dec_0 oX5_mayStand (of4 _) rfl
theorem dX5_mayStand_111 : decode cX5_mayStand 111 = .ok (.goto 4, 3) := dec_s2 oX5_mayStand (of167 _) 0 4 rfl (sg16p rfl) rfl
theorem dX5_mayStand_114 : decode cX5_mayStand 114 = .ok (.iconst 0, 1) := dec_0 oX5_mayStand (of3 _) rfl
theorem dX5_mayStand_115 : decode cX5_mayStand 115 = .ok (.ireturn, 1) := dec_0 oX5_mayStand (of172 _) rfl
theorem dX5_mayStand_116 : decode cX5_mayStand 116 = .ok (.aload_n 0, 1) := dec_0 oX5_mayStand (of42 _) rfl
theorem dX5_mayStand_117 : decode cX5_mayStand 117 = .ok (.invokevirtual 115, 3) := dec_2 oX5_mayStand (of182 _) 0 115 rfl rfl
theorem dX5_mayStand_120 : decode cX5_mayStand 120 = .ok (.ifCond .lt 7, 3) := dec_s2 oX5_mayStand (of155 _) 0 7 rfl (sg16p rfl) rfl
theorem dX5_mayStand_123 : decode cX5_mayStand 123 = .ok (.iconst 1, 1) := dec_0 oX5_mayStand (of4 _) rfl
theorem dX5_mayStand_124 : decode cX5_mayStand 124 = .ok (.goto 4, 3) := dec_s2 oX5_mayStand (of167 _) 0 4 rfl (sg16p rfl) rfl
theorem dX5_mayStand_127 : decode cX5_mayStand 127 = .ok (.iconst 0, 1) := dec_0 oX5_mayStand (of3 _) rfl
theorem dX5_mayStand_128 : decode cX5_mayStand 128 = .ok (.ireturn, 1) := dec_0 oX5_mayStand (of172 _) rfl
theorem dX5_mayStand_129 : decode cX5_mayStand 129 = .ok (.aload_n 0, 1) := dec_0 oX5_mayStand (of42 _) rfl
theorem dX5_mayStand_130 : decode cX5_mayStand 130 = .ok (.getfield 42, 3) := dec_2 oX5_mayStand (of180 _) 0 42 rfl rfl
theorem dX5_mayStand_133 : decode cX5_mayStand 133 = .ok (.getfield 53, 3) := dec_2 oX5_mayStand (of180 _) 0 53 rfl rfl
theorem dX5_mayStand_136 : decode cX5_mayStand 136 = .ok (.iconst 3, 1) := dec_0 oX5_mayStand (of6 _) rfl
theorem dX5_mayStand_137 : decode cX5_mayStand 137 = .ok (.if_icmp .ne 7, 3) := dec_s2 oX5_mayStand (of160 _) 0 7 rfl (sg16p rfl) rfl
theorem dX5_mayStand_140 : decode cX5_mayStand 140 = .ok (.iconst 1, 1) := dec_0 oX5_mayStand (of4 _) rfl
theorem dX5_mayStand_141 : decode cX5_mayStand 141 = .ok (.goto 4, 3) := dec_s2 oX5_mayStand (of167 _) 0 4 rfl (sg16p rfl) rfl
theorem dX5_mayStand_144 : decode cX5_mayStand 144 = .ok (.iconst 0, 1) := dec_0 oX5_mayStand (of3 _) rfl
theorem dX5_mayStand_145 : decode cX5_mayStand 145 = .ok (.ireturn, 1) := dec_0 oX5_mayStand (of172 _) rfl
theorem dX5_isNameAtHand_0 : decode cX5_isNameAtHand 0 = .ok (.aload_n 0, 1) := dec_0 oX5_isNameAtHand (of42 _) rfl
theorem dX5_isNameAtHand_1 : decode cX5_isNameAtHand 1 = .ok (.invokevirtual 99, 3) := dec_2 oX5_isNameAtHand (of182 _) 0 99 rfl rfl
theorem dX5_isNameAtHand_4 : decode cX5_isNameAtHand 4 = .ok (.ifCond .ge 29, 3) := dec_s2 oX5_isNameAtHand (of156 _) 0 29 rfl (sg16p rfl) rfl
theorem dX5_isNameAtHand_7 : decode cX5_isNameAtHand 7 = .ok (.aload_n 0, 1) := dec_0 oX5_isNameAtHand (of42 _) rfl
theorem dX5_isNameAtHand_8 : decode cX5_isNameAtHand 8 = .ok (.invokevirtual 118, 3) := dec_2 oX5_isNameAtHand (of182 _) 0 118 rfl rfl
theorem dX5_isNameAtHand_11 : decode cX5_isNameAtHand 11 = .ok (.ifCond .ge 22, 3) := dec_s2 oX5_isNameAtHand (of156 _) 0 22 rfl (sg16p rfl) rfl
theorem dX5_isNameAtHand_14 : decode cX5_isNameAtHand 14 = .ok (.aload_n 0, 1) := dec_0 oX5_isNameAtHand (of42 _) rfl
theorem dX5_isNameAtHand_15 : decode cX5_isNameAtHand 15 = .ok (.invokevirtual 121, 3) := dec_2 oX5_isNameAtHand (of182 _) 0 121 rfl rfl
theorem dX5_isNameAtHand_18 : decode cX5_isNameAtHand 18 = .ok (.ifCond .ge 15, 3) := dec_s2 oX5_isNameAtHand (of156 _) 0 15 rfl (sg16p rfl) rfl
theorem dX5_isNameAtHand_21 : decode cX5_isNameAtHand 21 = .ok (.aload_n 0, 1) := dec_0 oX5_isNameAtHand (of42 _) rfl
theorem dX5_isNameAtHand_22 : decode cX5_isNameAtHand 22 = .ok (.getfield 42, 3) := dec_2 oX5_isNameAtHand (of180 _) 0 42 rfl rfl
theorem dX5_isNameAtHand_25 : decode cX5_isNameAtHand 25 = .ok (.ldc 106, 2) := dec_1 oX5_isNameAtHand (of18 _) 106 rfl rfl
theorem dX5_isNameAtHand_27 : decode cX5_isNameAtHand 27 = .ok (.invokevirtual 108, 3) := dec_2 oX5_isNameAtHand (of182 _) 0 108 rfl rfl
theorem dX5_isNameAtHand_30 : decode cX5_isNameAtHand 30 = .ok (.ifCond .eq 7, 3) := dec_s2 oX5_isNameAtHand (of153 _) 0 7 rfl (sg16p rfl) rfl
theorem dX5_isNameAtHand_33 : decode cX5_isNameAtHand 33 = .ok (.iconst 1, 1) := dec_0 oX5_isNameAtHand (of4 _) rfl
theorem dX5_isNameAtHand_34 : decode cX5_isNameAtHand 34 = .ok (.goto 4, 3) := dec_s2 oX5_isNameAtHand (of167 _) 0 4 rfl (sg16p rfl) rfl
theorem dX5_isNameAtHand_37 : decode cX5_isNameAtHand 37 = .ok (.iconst 0, 1) := dec_0 oX5_isNameAtHand (of3 _) rfl
theorem dX5_isNameAtHand_38 : decode cX5_isNameAtHand 38 = .ok (.istore_n 1, 1) := dec_0 oX5_isNameAtHand (of60 _) rfl
theorem dX5_isNameAtHand_39 : decode cX5_isNameAtHand 39 = .ok (.aload_n 0, 1) := dec_0 oX5_isNameAtHand (of42 _) rfl
theorem dX5_isNameAtHand_40 : decode cX5_isNameAtHand 40 = .ok (.getfield 42, 3) := dec_2 oX5_isNameAtHand (of180 _) 0 42 rfl rfl
theorem dX5_isNameAtHand_43 : decode cX5_isNameAtHand 43 = .ok (.getfield 53, 3) := dec_2 oX5_isNameAtHand (of180 _) 0 53 rfl rfl
theorem dX5_isNameAtHand_46 : decode cX5_isNameAtHand 46 = .ok (.iconst 1, 1) := dec_0 oX5_isNameAtHand (of4 _) rfl
theorem dX5_isNameAtHand_47 : decode cX5_isNameAtHand 47 = .ok (.if_icmp .ne 11, 3) := dec_s2 oX5_isNameAtHand (of160 _) 0 11 rfl (sg16p rfl) rfl
theorem dX5_isNameAtHand_50 : decode cX5_isNameAtHand 50 = .ok (.iload_n 1, 1) := dec_0 oX5_isNameAtHand (of27 _) rfl
theorem dX5_isNameAtHand_51 : decode cX5_isNameAtHand 51 = .ok (.ifCond .ne 7, 3) := dec_s2 oX5_isNameAtHand (of154 _) 0 7 rfl (sg16p rfl) rfl
theorem dX5_isNameAtHand_54 : decode cX5_isNameAtHand 54 = .ok (.iconst 1, 1) := dec_0 oX5_isNameAtHand (of4 _) rfl
theorem dX5_isNameAtHand_55 : decode cX5_isNameAtHand 55 = .ok (.goto 4, 3) := dec_s2 oX5_isNameAtHand (of167 _) 0 4 rfl (sg16p rfl) rfl
theorem dX5_isNameAtHand_58 : decode cX5_isNameAtHand 58 = .ok (.iconst 0, 1) := dec_0 oX5_isNameAtHand (of3 _) rfl
theorem dX5_isNameAtHand_59 : decode cX5_isNameAtHand 59 = .ok (.ireturn, 1) := dec_0 oX5_isNameAtHand (of172 _) rfl
theorem dX5_mayStandInRow_0 : decode cX5_mayStandInRow 0 = .ok (.aload_n 0, 1) := dec_0 oX5_mayStandInRow (of42 _) rfl
theorem dX5_mayStandInRow_1 : decode cX5_mayStandInRow 1 = .ok (.getfield 42, 3) := dec_2 oX5_mayStandInRow (of180 _) 0 42 rfl rfl
theorem dX5_mayStandInRow_4 : decode cX5_mayStandInRow 4 = .ok (.getfield 53, 3) := dec_2 oX5_mayStandInRow (of180 _) 0 53 rfl rfl
theorem dX5_mayStandInRow_7 : decode cX5_mayStandInRow 7 = .ok (.iconst 2, 1) := dec_0 oX5_mayStandInRow (of5 _) rfl
theorem dX5_mayStandInRow_8 : decode cX5_mayStandInRow 8 = .ok (.if_icmp .ne 5, 3) := dec_s2 oX5_mayStandInRow (of160 _) 0 5 rfl (sg16p rfl) rfl
theorem dX5_mayStandInRow_11 : decode cX5_mayStandInRow 11 = .ok (.iconst 1, 1) := dec_0 oX5_mayStandInRow (of4 _) rfl
theorem dX5_mayStandInRow_12 : decode cX5_mayStandInRow 12 = .ok (.ireturn, 1) := dec_0 oX5_mayStandInRow (of172 _) rfl
theorem dX5_mayStandInRow_13 : decode cX5_mayStandInRow 13 = .ok (.aload_n 0, 1) := dec_0 oX5_mayStandInRow (of42 _) rfl
theorem dX5_mayStandInRow_14 : decode cX5_mayStandInRow 14 = .ok (.getfield 87, 3) := dec_2 oX5_mayStandInRow (of180 _) 0 87 rfl rfl
theorem dX5_mayStandInRow_17 : decode cX5_mayStandInRow 17 = .ok (.ifCond .ne 29, 3) := dec_s2 oX5_mayStandInRow (of154 _) 0 29 rfl (sg16p rfl) rfl
theorem dX5_mayStandInRow_20 : decode cX5_mayStandInRow 20 = .ok (.aload_n 0, 1) := dec_0 oX5_mayStandInRow (of42 _) rfl
theorem dX5_mayStandInRow_21 : decode cX5_mayStandInRow 21 = .ok (.getfield 42, 3) := dec_2 oX5_mayStandInRow (of180 _) 0 42 rfl rfl
theorem dX5_mayStandInRow_24 : decode cX5_mayStandInRow 24 = .ok (.getfield 53, 3) := dec_2 oX5_mayStandInRow (of180 _) 0 53 rfl rfl
theorem dX5_mayStandInRow_27 : decode cX5_mayStandInRow 27 = .ok (.iconst 4, 1) := dec_0 oX5_mayStandInRow (of7 _) rfl
theorem dX5_mayStandInRow_28 : decode cX5_mayStandInRow 28 = .ok (.if_icmp .eq 14, 3) := dec_s2 oX5_mayStandInRow (of159 _) 0 14 rfl (sg16p rfl) rfl
theorem dX5_mayStandInRow_31 : decode cX5_mayStandInRow 31 = .ok (.aload_n 0, 1) := dec_0 oX5_mayStandInRow (of42 _) rfl
theorem dX5_mayStandInRow_32 : decode cX5_mayStandInRow 32 = .ok (.getfield 42, 3) := dec_2 oX5_mayStandInRow (of180 _) 0 42 rfl rfl
theorem dX5_mayStandInRow_35 : decode cX5_mayStandInRow 35 = .ok (.getfield 53, 3) := dec_2 oX5_mayStandInRow (of180 _) 0 53 rfl rfl
theorem dX5_mayStandInRow_38 : decode cX5_mayStandInRow 38 = .ok (.iconst 3, 1) := dec_0 oX5_mayStandInRow (of6 _) rfl
theorem dX5_mayStandInRow_39 : decode cX5_mayStandInRow 39 = .ok (.if_icmp .ne 7, 3) := dec_s2 oX5_mayStandInRow (of160 _) 0 7 rfl (sg16p rfl) rfl
theorem dX5_mayStandInRow_42 : decode cX5_mayStandInRow 42 = .ok (.iconst 1, 1) := dec_0 oX5_mayStandInRow (of4 _) rfl
theorem dX5_mayStandInRow_43 : decode cX5_mayStandInRow 43 = .ok (.goto 4, 3) := dec_s2 oX5_mayStandInRow (of167 _) 0 4 rfl (sg16p rfl) rfl
theorem dX5_mayStandInRow_46 : decode cX5_mayStandInRow 46 = .ok (.iconst 0, 1) := dec_0 oX5_mayStandInRow (of3 _) rfl
theorem dX5_mayStandInRow_47 : decode cX5_mayStandInRow 47 = .ok (.ireturn, 1) := dec_0 oX5_mayStandInRow (of172 _) rfl
theorem dX5_hasRoom_0 : decode cX5_hasRoom 0 = .ok (.aload_n 0, 1) := dec_0 oX5_hasRoom (of42 _) rfl
theorem dX5_hasRoom_1 : decode cX5_hasRoom 1 = .ok (.getfield 42, 3) := dec_2 oX5_hasRoom (of180 _) 0 42 rfl rfl
theorem dX5_hasRoom_4 : decode cX5_hasRoom 4 = .ok (.getfield 124, 3) := dec_2 oX5_hasRoom (of180 _) 0 124 rfl rfl
theorem dX5_hasRoom_7 : decode cX5_hasRoom 7 = .ok (.sipush 400, 3) := dec_s2 oX5_hasRoom (of17 _) 1 144 rfl (sg16p rfl) rfl
theorem dX5_hasRoom_10 : decode cX5_hasRoom 10 = .ok (.if_icmp .le 5, 3) := dec_s2 oX5_hasRoom (of164 _) 0 5 rfl (sg16p rfl) rfl
theorem dX5_hasRoom_13 : decode cX5_hasRoom 13 = .ok (.iconst 0, 1) := dec_0 oX5_hasRoom (of3 _) rfl
theorem dX5_hasRoom_14 : decode cX5_hasRoom 14 = .ok (.ireturn, 1) := dec_0 oX5_hasRoom (of172 _) rfl
theorem dX5_hasRoom_15 : decode cX5_hasRoom 15 = .ok (.aload_n 0, 1) := dec_0 oX5_hasRoom (of42 _) rfl
theorem dX5_hasRoom_16 : decode cX5_hasRoom 16 = .ok (.getfield 75, 3) := dec_2 oX5_hasRoom (of180 _) 0 75 rfl rfl
theorem dX5_hasRoom_19 : decode cX5_hasRoom 19 = .ok (.tableswitch 110 0 3 #[29, 54, 110, 84], 29) := by decide +kernel
theorem dX5_hasRoom_48 : decode cX5_hasRoom 48 = .ok (.aload_n 0, 1) := dec_0 oX5_hasRoom (of42 _) rfl
theorem dX5_hasRoom_49 : decode cX5_hasRoom 49 = .ok (.invokevirtual 99, 3) := dec_2 oX5_hasRoom (of182 _) 0 99 rfl rfl
theorem dX5_hasRoom_52 : decode cX5_hasRoom 52 = .ok (.iconst 5, 1) := dec_0 oX5_hasRoom (of8 _) rfl
theorem dX5_hasRoom_53 : decode cX5_hasRoom 53 = .ok (.if_icmp .ne 14, 3) := dec_s2 oX5_hasRoom (of160 _) 0 14 rfl (sg16p rfl) rfl
theorem dX5_hasRoom_56 : decode cX5_hasRoom 56 = .ok (.aload_n 0, 1) := dec_0 oX5_hasRoom (of42 _) rfl
theorem dX5_hasRoom_57 : decode cX5_hasRoom 57 = .ok (.getfield 21, 3) := dec_2 oX5_hasRoom (of180 _) 0 21 rfl rfl
theorem dX5_hasRoom_60 : decode cX5_hasRoom 60 = .ok (.getfield 84, 3) := dec_2 oX5_hasRoom (of180 _) 0 84 rfl rfl
theorem dX5_hasRoom_63 : decode cX5_hasRoom 63 = .ok (.iconst 5, 1) := dec_0 oX5_hasRoom (of8 _) rfl
theorem dX5_hasRoom_64 : decode cX5_hasRoom 64 = .ok (.if_icmp .ge 7, 3) := dec_s2 oX5_hasRoom (of162 _) 0 7 rfl (sg16p rfl) rfl
theorem dX5_hasRoom_67 : decode cX5_hasRoom 67 = .ok (.iconst 1, 1) := dec_0 oX5_hasRoom (of4 _) rfl
theorem dX5_hasRoom_68 : decode cX5_hasRoom 68 = .ok (.goto 4, 3) := dec_s2 oX5_hasRoom (of167 _) 0 4 rfl (sg16p rfl) rfl
theorem dX5_hasRoom_71 : decode cX5_hasRoom 71 = .ok (.iconst 0, 1) := dec_0 oX5_hasRoom (of3 _) rfl
theorem dX5_hasRoom_72 : decode cX5_hasRoom 72 = .ok (.ireturn, 1) := dec_0 oX5_hasRoom (of172 _) rfl
theorem dX5_hasRoom_73 : decode cX5_hasRoom 73 = .ok (.aload_n 0, 1) := dec_0 oX5_hasRoom (of42 _) rfl
theorem dX5_hasRoom_74 : decode cX5_hasRoom 74 = .ok (.getfield 42, 3) := dec_2 oX5_hasRoom (of180 _) 0 42 rfl rfl
theorem dX5_hasRoom_77 : decode cX5_hasRoom 77 = .ok (.getfield 53, 3) := dec_2 oX5_hasRoom (of180 _) 0 53 rfl rfl
