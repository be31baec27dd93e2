theorem dX10_addFour_4 : decode cX10_addFour 4 = .ok (.ifCond .lt 54, 3) := dec_s2 oX10_addFour (of155 _) 0 54 rfl (sg16p rfl) rfl
theorem dX10_addFour_40 : decode cX10_addFour 40 = .ok (.iand, 1) := dec_0 oX10_addFour (of126 _) rfl
theorem dX10_addFour_41 : decode cX10_addFour 41 = .ok (.iastore, 1) := dec_0 oX10_addFour (of79 _) rfl
theorem dX10_addFour_42 : decode cX10_addFour 42 = .ok (.aload_n 0, 1) := dec_0 oX10_addFour (of42 _) rfl
theorem dX10_addFour_43 : decode cX10_addFour 43 = .ok (.dup, 1) := dec_0 oX10_addFour (of89 _) rfl
theorem dX10_addFour_44 : decode cX10_addFour 44 = .ok (.getfield 15, 3) := dec_2 oX10_addFour (of180 _) 0 15 rfl rfl
theorem dX10_addFour_47 : decode cX10_addFour 47 = .ok (.iconst 1, 1) := dec_0 oX10_addFour (of4 _) rfl
theorem dX10_addFour_48 : decode cX10_addFour 48 = .ok (.iadd, 1) := dec_0 oX10_addFour (of96 _) rfl
theorem dX10_addFour_49 : decode cX10_addFour 49 = .ok (.putfield 15, 3) := dec_2 oX10_addFour (of181 _) 0 15 rfl rfl
theorem dX10_addFour_52 : decode cX10_addFour 52 = .ok (.iinc 2 (-8), 3) := dec_ii oX10_addFour (of132 _) 2 248 rfl (sg8n (k := 8) rfl) rfl
theorem dX10_addFour_55 : decode cX10_addFour 55 = .ok (.goto (-52), 3) := dec_s2 oX10_addFour (of167 _) 255 204 rfl (sg16n (k := 52) rfl) rfl
theorem dX10_addFour_58 : decode cX10_addFour 58 = .ok (.return_, 1) := dec_0 oX10_addFour (of177 _) rfl
theorem dX10_addFour_7 : decode cX10_addFour 7 = .ok (.aload_n 0, 1) := dec_0 oX10_addFour (of42 _) rfl
theorem dX10_addFour_8 : decode cX10_addFour 8 = .ok (.getfield 15, 3) := dec_2 oX10_addFour (of180 _) 0 15 rfl rfl
theorem dX10_behindBlanks_0 : decode cX10_behindBlanks 0 = .ok (.iload_n 1, 1) := dec_0 oX10_behindBlanks (of27 _) rfl
theorem dX10_behindBlanks_1 : decode cX10_behindBlanks 1 = .ok (.istore_n 2, 1) := dec_0 oX10_behindBlanks (of61 _) rfl
theorem dX10_behindBlanks_2 : decode cX10_behindBlanks 2 = .ok (.iload_n 2, 1) := dec_0 oX10_behindBlanks (of28 _) rfl
theorem dX10_behindBlanks_3 : decode cX10_behindBlanks 3 = .ok (.aload_n 0, 1) := dec_0 oX10_behindBlanks (of42 _) rfl
theorem dX10_behindBlanks_4 : decode cX10_behindBlanks 4 = .ok (.getfield 15, 3) := dec_2 oX10_behindBlanks (of180 _) 0 15 rfl rfl
theorem dX10_behindBlanks_48 : decode cX10_behindBlanks 48 = .ok (.aload_n 0, 1) := dec_0 oX10_behindBlanks (of42 _) rfl
theorem dX10_behindBlanks_49 : decode cX10_behindBlanks 49 = .ok (.getfield 15, 3) := dec_2 oX10_behindBlanks (of180 _) 0 15 rfl rfl
theorem dX10_behindBlanks_52 : decode cX10_behindBlanks 52 = .ok (.ireturn, 1) := dec_0 oX10_behindBlanks (of172 _) rfl
theorem dX10_behindBlanks_7 : decode cX10_behindBlanks 7 = .ok (.if_icmp .ge 41, 3) := dec_s2 oX10_behindBlanks (of162 _) 0 41 rfl (sg16p rfl) rfl
theorem dX10_byteAt_0 : decode cX10_byteAt 0 = .ok (.iload_n 1, 1) := dec_0 oX10_byteAt (of27 _) rfl
theorem dX10_byteAt_1 : decode cX10_byteAt 1 = .ok (.ifCond .lt 29, 3) := dec_s2 oX10_byteAt (of155 _) 0 29 rfl (sg16p rfl) rfl
theorem dX10_byteAt_30 : decode cX10_byteAt 30 = .ok (.iconst (-1), 1) := dec_0 oX10_byteAt (of2 _) rfl
theorem dX10_byteAt_31 : decode cX10_byteAt 31 = .ok (.ireturn, 1) := dec_0 oX10_byteAt (of172 _) rfl
theorem dX10_byteAt_4 : decode cX10_byteAt 4 = .ok (.iload_n 1, 1) := dec_0 oX10_byteAt (of27 _) rfl
theorem dX10_byteAt_5 : decode cX10_byteAt 5 = .ok (.aload_n 0, 1) := dec_0 oX10_byteAt (of42 _) rfl
theorem dX10_byteAt_6 : decode cX10_byteAt 6 = .ok (.getfield 15, 3) := dec_2 oX10_byteAt (of180 _) 0 15 rfl rfl
theorem dX10_byteAt_9 : decode cX10_byteAt 9 = .ok (.if_icmp .ge 21, 3) := dec_s2 oX10_byteAt (of162 _) 0 21 rfl (sg16p rfl) rfl
theorem dX10_init_0 : decode cX10_init 0 = .ok (.aload_n 0, 1) := dec_0 oX10_init (of42 _) rfl
theorem dX10_init_1 : decode cX10_init 1 = .ok (.invokespecial 3, 3) := dec_2 oX10_init (of183 _) 0 3 rfl rfl
theorem dX10_init_10 : decode cX10_init 10 = .ok (.putfield 9, 3) := dec_2 oX10_init (of181 _) 0 9 rfl rfl
theorem dX10_init_13 : decode cX10_init 13 = .ok (.return_, 1) := dec_0 oX10_init (of177 _) rfl
theorem dX10_init_4 : decode cX10_init 4 = .ok (.aload_n 0, 1) := dec_0 oX10_init (of42 _) rfl
theorem dX10_init_5 : decode cX10_init 5 = .ok (.sipush 2000, 3) := dec_s2 oX10_init (of17 _) 7 208 rfl (sg16p rfl) rfl
theorem dX10_init_8 : decode cX10_init 8 = .ok (.newarray .int, 2) := by decide +kernel
theorem dX10_toFirstToken_0 : decode cX10_toFirstToken 0 = .ok (.aload_n 0, 1) := dec_0 oX10_toFirstToken (of42 _) rfl
theorem dX10_toFirstToken_1 : decode cX10_toFirstToken 1 = .ok (.iconst 0, 1) := dec_0 oX10_toFirstToken (of3 _) rfl
theorem dX10_toFirstToken_10 : decode cX10_toFirstToken 10 = .ok (.aload_n 0, 1) := dec_0 oX10_toFirstToken (of42 _) rfl
theorem dX10_toFirstToken_11 : decode cX10_toFirstToken 11 = .ok (.invokevirtual 25, 3) := dec_2 oX10_toFirstToken (of182 _) 0 25 rfl rfl
theorem dX10_toFirstToken_14 : decode cX10_toFirstToken 14 = .ok (.return_, 1) := dec_0 oX10_toFirstToken (of177 _) rfl
theorem dX10_toFirstToken_2 : decode cX10_toFirstToken 2 = .ok (.putfield 19, 3) := dec_2 oX10_toFirstToken (of181 _) 0 19 rfl rfl
theorem dX10_toFirstToken_5 : decode cX10_toFirstToken 5 = .ok (.aload_n 0, 1) := dec_0 oX10_toFirstToken (of42 _) rfl
theorem dX10_toFirstToken_6 : decode cX10_toFirstToken 6 = .ok (.iconst 0, 1) := dec_0 oX10_toFirstToken (of3 _) rfl
theorem dX10_toFirstToken_7 : decode cX10_toFirstToken 7 = .ok (.putfield 22, 3) := dec_2 oX10_toFirstToken (of181 _) 0 22 rfl rfl
theorem dX10_toNextToken_0 : decode cX10_toNextToken 0 = .ok (.aload_n 0, 1) := dec_0 oX10_toNextToken (of42 _) rfl
theorem dX10_toNextToken_1 : decode cX10_toNextToken 1 = .ok (.aload_n 0, 1) := dec_0 oX10_toNextToken (of42 _) rfl
theorem dX10_toNextToken_119 : decode cX10_toNextToken 119 = .ok (.return_, 1) := dec_0 oX10_toNextToken (of177 _) rfl
theorem dX10_toNextToken_12 : decode cX10_toNextToken 12 = .ok (.aload_n 0, 1) := dec_0 oX10_toNextToken (of42 _) rfl
theorem dX10_toNextToken_13 : decode cX10_toNextToken 13 = .ok (.dup, 1) := dec_0 oX10_toNextToken (of89 _) rfl
theorem dX10_toNextToken_14 : decode cX10_toNextToken 14 = .ok (.getfield 22, 3) := dec_2 oX10_toNextToken (of180 _) 0 22 rfl rfl
theorem dX10_toNextToken_17 : decode cX10_toNextToken 17 = .ok (.iconst 1, 1) := dec_0 oX10_toNextToken (of4 _) rfl
theorem dX10_toNextToken_18 : decode cX10_toNextToken 18 = .ok (.iadd, 1) := dec_0 oX10_toNextToken (of96 _) rfl
theorem dX10_toNextToken_19 : decode cX10_toNextToken 19 = .ok (.putfield 22, 3) := dec_2 oX10_toNextToken (of181 _) 0 22 rfl rfl
theorem dX10_toNextToken_2 : decode cX10_toNextToken 2 = .ok (.aload_n 0, 1) := dec_0 oX10_toNextToken (of42 _) rfl
theorem dX10_toNextToken_22 : decode cX10_toNextToken 22 = .ok (.aload_n 0, 1) := dec_0 oX10_toNextToken (of42 _) rfl
theorem dX10_toNextToken_23 : decode cX10_toNextToken 23 = .ok (.iconst 0, 1) := dec_0 oX10_toNextToken (of3 _) rfl
theorem dX10_toNextToken_24 : decode cX10_toNextToken 24 = .ok (.putfield 35, 3) := dec_2 oX10_toNextToken (of181 _) 0 35 rfl rfl
theorem dX10_toNextToken_27 : decode cX10_toNextToken 27 = .ok (.aload_n 0, 1) := dec_0 oX10_toNextToken (of42 _) rfl
theorem dX10_toNextToken_28 : decode cX10_toNextToken 28 = .ok (.aload_n 0, 1) := dec_0 oX10_toNextToken (of42 _) rfl
theorem dX10_toNextToken_29 : decode cX10_toNextToken 29 = .ok (.getfield 32, 3) := dec_2 oX10_toNextToken (of180 _) 0 32 rfl rfl
theorem dX10_toNextToken_3 : decode cX10_toNextToken 3 = .ok (.getfield 19, 3) := dec_2 oX10_toNextToken (of180 _) 0 19 rfl rfl
theorem dX10_toNextToken_32 : decode cX10_toNextToken 32 = .ok (.invokevirtual 38, 3) := dec_2 oX10_toNextToken (of182 _) 0 38 rfl rfl
theorem dX10_toNextToken_35 : decode cX10_toNextToken 35 = .ok (.istore_n 1, 1) := dec_0 oX10_toNextToken (of60 _) rfl
theorem dX10_toNextToken_36 : decode cX10_toNextToken 36 = .ok (.iload_n 1, 1) := dec_0 oX10_toNextToken (of27 _) rfl
theorem dX10_toNextToken_37 : decode cX10_toNextToken 37 = .ok (.ifCond .ge 19, 3) := dec_s2 oX10_toNextToken (of156 _) 0 19 rfl (sg16p rfl) rfl
theorem dX10_toNextToken_40 : decode cX10_toNextToken 40 = .ok (.aload_n 0, 1) := dec_0 oX10_toNextToken (of42 _) rfl
theorem dX10_toNextToken_41 : decode cX10_toNextToken 41 = .ok (.iconst 0, 1) := dec_0 oX10_toNextToken (of3 _) rfl
theorem dX10_toNextToken_42 : decode cX10_toNextToken 42 = .ok (.putfield 41, 3) := dec_2 oX10_toNextToken (of181 _) 0 41 rfl rfl
theorem dX10_toNextToken_45 : decode cX10_toNextToken 45 = .ok (.aload_n 0, 1) := dec_0 oX10_toNextToken (of42 _) rfl
theorem dX10_toNextToken_46 : decode cX10_toNextToken 46 = .ok (.aload_n 0, 1) := dec_0 oX10_toNextToken (of42 _) rfl
theorem dX10_toNextToken_47 : decode cX10_toNextToken 47 = .ok (.getfield 32, 3) := dec_2 oX10_toNextToken (of180 _) 0 32 rfl rfl
theorem dX10_toNextToken_50 : decode cX10_toNextToken 50 = .ok (.putfield 19, 3) := dec_2 oX10_toNextToken (of181 _) 0 19 rfl rfl
theorem dX10_toNextToken_53 : decode cX10_toNextToken 53 = .ok (.goto 66, 3) := dec_s2 oX10_toNextToken (of167 _) 0 66 rfl (sg16p rfl) rfl
theorem dX10_toNextToken_6 : decode cX10_toNextToken 6 = .ok (.invokevirtual 28, 3) := dec_2 oX10_toNextToken (of182 _) 0 28 rfl rfl
theorem dX10_toNextToken_9 : decode cX10_toNextToken 9 = .ok (.putfield 32, 3) := dec_2 oX10_toNextToken (of181 _) 0 32 rfl rfl
theorem dX11_alike_0 : decode cX11_alike 0 = .ok (.aload_n 0, 1) := dec_0 oX11_alike (of42 _) rfl
theorem dX11_alike_1 : decode cX11_alike 1 = .ok (.getfield 35, 3) := dec_2 oX11_alike (of180 _) 0 35 rfl rfl
theorem dX11_alike_22 : decode cX11_alike 22 = .ok (.iconst (-1), 1) := dec_0 oX11_alike (of2 _) rfl
theorem dX11_alike_23 : decode cX11_alike 23 = .ok (.ireturn, 1) := dec_0 oX11_alike (of172 _) rfl
theorem dX11_alike_4 : decode cX11_alike 4 = .ok (.iload_n 1, 1) := dec_0 oX11_alike (of27 _) rfl
theorem dX11_alike_5 : decode cX11_alike 5 = .ok (.invokevirtual 251, 3) := dec_2 oX11_alike (of182 _) 0 251 rfl rfl
theorem dX11_alike_8 : decode cX11_alike 8 = .ok (.ifCond .eq 14, 3) := dec_s2 oX11_alike (of153 _) 0 14 rfl (sg16p rfl) rfl
theorem dX11_appendPlace_0 : decode cX11_appendPlace 0 = .ok (.aload_n 0, 1) := dec_0 oX11_appendPlace (of42 _) rfl
theorem dX11_appendPlace_1 : decode cX11_appendPlace 1 = .ok (.getfield 28, 3) := dec_2 oX11_appendPlace (of180 _) 0 28 rfl rfl
theorem dX11_appendPlace_13 : decode cX11_appendPlace 13 = .ok (.aload_n 0, 1) := dec_0 oX11_appendPlace (of42 _) rfl
theorem dX11_appendPlace_14 : decode cX11_appendPlace 14 = .ok (.getfield 49, 3) := dec_2 oX11_appendPlace (of180 _) 0 49 rfl rfl
theorem dX11_appendPlace_17 : decode cX11_appendPlace 17 = .ok (.iconst 0, 1) := dec_0 oX11_appendPlace (of3 _) rfl
theorem dX11_appendPlace_18 : decode cX11_appendPlace 18 = .ok (.iconst 0, 1) := dec_0 oX11_appendPlace (of3 _) rfl
theorem dX11_appendPlace_19 : decode cX11_appendPlace 19 = .ok (.iconst 0, 1) := dec_0 oX11_appendPlace (of3 _) rfl
theorem dX11_appendPlace_20 : decode cX11_appendPlace 20 = .ok (.invokevirtual 134, 3) := dec_2 oX11_appendPlace (of182 _) 0 134 rfl rfl
theorem dX11_appendPlace_23 : decode cX11_appendPlace 23 = .ok (.aload_n 0, 1) := dec_0 oX11_appendPlace (of42 _) rfl
theorem dX11_appendPlace_24 : decode cX11_appendPlace 24 = .ok (.getfield 28, 3) := dec_2 oX11_appendPlace (of180 _) 0 28 rfl rfl
theorem dX11_appendPlace_27 : decode cX11_appendPlace 27 = .ok (.getfield 138, 3) := dec_2 oX11_appendPlace (of180 _) 0 138 rfl rfl
theorem dX11_appendPlace_30 : decode cX11_appendPlace 30 = .ok (.ireturn, 1) := dec_0 oX11_appendPlace (of172 _) rfl
theorem dX11_appendPlace_4 : decode cX11_appendPlace 4 = .ok (.iload_n 1, 1) := dec_0 oX11_appendPlace (of27 _) rfl
theorem dX11_appendPlace_5 : decode cX11_appendPlace 5 = .ok (.invokevirtual 130, 3) := dec_2 oX11_appendPlace (of182 _) 0 130 rfl rfl
theorem dX11_appendPlace_8 : decode cX11_appendPlace 8 = .ok (.ifCond .ne 5, 3) := dec_s2 oX11_appendPlace (of154 _) 0 5 rfl (sg16p rfl) rfl
theorem dX11_at_0 : decode cX11_at 0 = .ok (.aload_n 0, 1) := dec_0 oX11_at (of42 _) rfl
theorem dX11_at_1 : decode cX11_at 1 = .ok (.getfield 28, 3) := dec_2 oX11_at (of180 _) 0 28 rfl rfl
theorem dX11_at_4 : decode cX11_at 4 = .ok (.iload_n 1, 1) := dec_0 oX11_at (of27 _) rfl
theorem dX11_at_5 : decode cX11_at 5 = .ok (.invokevirtual 120, 3) := dec_2 oX11_at (of182 _) 0 120 rfl rfl
theorem dX11_at_8 : decode cX11_at 8 = .ok (.ireturn, 1) := dec_0 oX11_at (of172 _) rfl
theorem dX11_back_0 : decode cX11_back 0 = .ok (.iload_n 1, 1) := dec_0 oX11_back (of27 _) rfl
theorem dX11_back_1 : decode cX11_back 1 = .ok (.ifCond .lt 14, 3) := dec_s2 oX11_back (of155 _) 0 14 rfl (sg16p rfl) rfl
theorem dX11_back_12 : decode cX11_back 12 = .ok (.if_icmp .le 5, 3) := dec_s2 oX11_back (of164 _) 0 5 rfl (sg16p rfl) rfl
theorem dX11_back_15 : decode cX11_back 15 = .ok (.iconst (-1), 1) := dec_0 oX11_back (of2 _) rfl
theorem dX11_back_16 : decode cX11_back 16 = .ok (.ireturn, 1) := dec_0 oX11_back (of172 _) rfl
theorem dX11_back_17 : decode cX11_back 17 = .ok (.aload_n 0, 1) := dec_0 oX11_back (of42 _) rfl
theorem dX11_back_18 : decode cX11_back 18 = .ok (.getfield 10, 3) := dec_2 oX11_back (of180 _) 0 10 rfl rfl
theorem dX11_back_21 : decode cX11_back 21 = .ok (.dup, 1) := dec_0 oX11_back (of89 _) rfl
theorem dX11_back_22 : decode cX11_back 22 = .ok (.getfield 85, 3) := dec_2 oX11_back (of180 _) 0 85 rfl rfl
theorem dX11_back_25 : decode cX11_back 25 = .ok (.iload_n 1, 1) := dec_0 oX11_back (of27 _) rfl
theorem dX11_back_26 : decode cX11_back 26 = .ok (.isub, 1) := dec_0 oX11_back (of100 _) rfl
theorem dX11_back_27 : decode cX11_back 27 = .ok (.putfield 85, 3) := dec_2 oX11_back (of181 _) 0 85 rfl rfl
theorem dX11_back_30 : decode cX11_back 30 = .ok (.aload_n 0, 1) := dec_0 oX11_back (of42 _) rfl
theorem dX11_back_31 : decode cX11_back 31 = .ok (.getfield 10, 3) := dec_2 oX11_back (of180 _) 0 10 rfl rfl
theorem dX11_back_34 : decode cX11_back 34 = .ok (.getfield 85, 3) := dec_2 oX11_back (of180 _) 0 85 rfl rfl
theorem dX11_back_37 : decode cX11_back 37 = .ok (.ireturn, 1) := dec_0 oX11_back (of172 _) rfl
theorem dX11_back_4 : decode cX11_back 4 = .ok (.iload_n 1, 1) := dec_0 oX11_back (of27 _) rfl
theorem dX11_back_5 : decode cX11_back 5 = .ok (.aload_n 0, 1) := dec_0 oX11_back (of42 _) rfl
theorem dX11_back_6 : decode cX11_back 6 = .ok (.getfield 10, 3) := dec_2 oX11_back (of180 _) 0 10 rfl rfl
theorem dX11_back_9 : decode cX11_back 9 = .ok (.getfield 85, 3) := dec_2 oX11_back (of180 _) 0 85 rfl rfl
theorem dX11_best_0 : decode cX11_best 0 = .ok (.iload_n 2, 1) := dec_0 oX11_best (of28 _) rfl
theorem dX11_best_1 : decode cX11_best 1 = .ok (.ifCond .lt 19, 3) := dec_s2 oX11_best (of155 _) 0 19 rfl (sg16p rfl) rfl
theorem dX11_best_10 : decode cX11_best 10 = .ok (.getfield 35, 3) := dec_2 oX11_best (of180 _) 0 35 rfl rfl
theorem dX11_best_13 : decode cX11_best 13 = .ok (.iload_n 1, 1) := dec_0 oX11_best (of27 _) rfl
theorem dX11_best_14 : decode cX11_best 14 = .ok (.invokevirtual 251, 3) := dec_2 oX11_best (of182 _) 0 251 rfl rfl
theorem dX11_best_17 : decode cX11_best 17 = .ok (.ifCond .ne 5, 3) := dec_s2 oX11_best (of154 _) 0 5 rfl (sg16p rfl) rfl
theorem dX11_best_20 : decode cX11_best 20 = .ok (.iconst (-1), 1) := dec_0 oX11_best (of2 _) rfl
theorem dX11_best_21 : decode cX11_best 21 = .ok (.ireturn, 1) := dec_0 oX11_best (of172 _) rfl
theorem dX11_best_4 : decode cX11_best 4 = .ok (.iload_n 2, 1) := dec_0 oX11_best (of28 _) rfl
theorem dX11_best_5 : decode cX11_best 5 = .ok (.iconst 1, 1) := dec_0 oX11_best (of4 _) rfl
theorem dX11_best_6 : decode cX11_best 6 = .ok (.if_icmp .gt 14, 3) := dec_s2 oX11_best (of163 _) 0 14 rfl (sg16p rfl) rfl
theorem dX11_best_9 : decode cX11_best 9 = .ok (.aload_n 0, 1) := dec_0 oX11_best (of42 _) rfl
theorem dX11_bound_0 : decode cX11_bound 0 = .ok (.aload_n 0, 1) := dec_0 oX11_bound (of42 _) rfl
theorem dX11_bound_1 : decode cX11_bound 1 = .ok (.getfield 65, 3) := dec_2 oX11_bound (of180 _) 0 65 rfl rfl
theorem dX11_bound_12 : decode cX11_bound 12 = .ok (.iconst (-1), 1) := dec_0 oX11_bound (of2 _) rfl
theorem dX11_bound_13 : decode cX11_bound 13 = .ok (.ireturn, 1) := dec_0 oX11_bound (of172 _) rfl
theorem dX11_bound_4 : decode cX11_bound 4 = .ok (.iload_n 1, 1) := dec_0 oX11_bound (of27 _) rfl
theorem dX11_bound_5 : decode cX11_bound 5 = .ok (.iload_n 2, 1) := dec_0 oX11_bound (of28 _) rfl
theorem dX11_bound_6 : decode cX11_bound 6 = .ok (.invokevirtual 212, 3) := dec_2 oX11_bound (of182 _) 0 212 rfl rfl
theorem dX11_bound_9 : decode cX11_bound 9 = .ok (.ifCond .ne 5, 3) := dec_s2 oX11_bound (of154 _) 0 5 rfl (sg16p rfl) rfl
theorem dX11_cause_0 : decode cX11_cause 0 = .ok (.aload_n 0, 1) := dec_0 oX11_cause (of42 _) rfl
theorem dX11_cause_1 : decode cX11_cause 1 = .ok (.getfield 21, 3) := dec_2 oX11_cause (of180 _) 0 21 rfl rfl
theorem dX11_cause_4 : decode cX11_cause 4 = .ok (.getfield 117, 3) := dec_2 oX11_cause (of180 _) 0 117 rfl rfl
theorem dX11_cause_7 : decode cX11_cause 7 = .ok (.ireturn, 1) := dec_0 oX11_cause (of172 _) rfl
theorem dX11_count_0 : decode cX11_count 0 = .ok (.iload_n 1, 1) := dec_0 oX11_count (of27 _) rfl
theorem dX11_count_1 : decode cX11_count 1 = .ok (.tableswitch 221 0 14 #[75, 83, 91, 99, 108, 117, 126, 135, 143, 151, 159, 175, 180, 196, 212], 75) := by decide +kernel
theorem dX11_count_100 : decode cX11_count 100 = .ok (.aload_n 0, 1) := dec_0 oX11_count (of42 _) rfl
theorem dX11_count_101 : decode cX11_count 101 = .ok (.getfield 42, 3) := dec_2 oX11_count (of180 _) 0 42 rfl rfl
theorem dX11_count_104 : decode cX11_count 104 = .ok (.iconst 0, 1) := dec_0 oX11_count (of3 _) rfl
theorem dX11_count_105 : decode cX11_count 105 = .ok (.invokevirtual 154, 3) := dec_2 oX11_count (of182 _) 0 154 rfl rfl
theorem dX11_count_108 : decode cX11_count 108 = .ok (.ireturn, 1) := dec_0 oX11_count (of172 _) rfl
theorem dX11_count_109 : decode cX11_count 109 = .ok (.aload_n 0, 1) := dec_0 oX11_count (of42 _) rfl
theorem dX11_count_110 : decode cX11_count 110 = .ok (.getfield 42, 3) := dec_2 oX11_count (of180 _) 0 42 rfl rfl
theorem dX11_count_113 : decode cX11_count 113 = .ok (.iconst 1, 1) := dec_0 oX11_count (of4 _) rfl
theorem dX11_count_114 : decode cX11_count 114 = .ok (.invokevirtual 154, 3) := dec_2 oX11_count (of182 _) 0 154 rfl rfl
theorem dX11_count_117 : decode cX11_count 117 = .ok (.ireturn, 1) := dec_0 oX11_count (of172 _) rfl
theorem dX11_count_118 : decode cX11_count 118 = .ok (.aload_n 0, 1) := dec_0 oX11_count (of42 _) rfl
theorem dX11_count_119 : decode cX11_count 119 = .ok (.getfield 42, 3) := dec_2 oX11_count (of180 _) 0 42 rfl rfl
theorem dX11_count_122 : decode cX11_count 122 = .ok (.iconst 2, 1) := dec_0 oX11_count (of5 _) rfl
theorem dX11_count_123 : decode cX11_count 123 = .ok (.invokevirtual 154, 3) := dec_2 oX11_count (of182 _) 0 154 rfl rfl
theorem dX11_count_126 : decode cX11_count 126 = .ok (.ireturn, 1) := dec_0 oX11_count (of172 _) rfl
theorem dX11_count_127 : decode cX11_count 127 = .ok (.aload_n 0, 1) := dec_0 oX11_count (of42 _) rfl
theorem dX11_count_128 : decode cX11_count 128 = .ok (.getfield 42, 3) := dec_2 oX11_count (of180 _) 0 42 rfl rfl
theorem dX11_count_131 : decode cX11_count 131 = .ok (.iconst 3, 1) := dec_0 oX11_count (of6 _) rfl
theorem dX11_count_132 : decode cX11_count 132 = .ok (.invokevirtual 154, 3) := dec_2 oX11_count (of182 _) 0 154 rfl rfl
theorem dX11_count_135 : decode cX11_count 135 = .ok (.ireturn, 1) := dec_0 oX11_count (of172 _) rfl
theorem dX11_count_136 : decode cX11_count 136 = .ok (.aload_n 0, 1) := dec_0 oX11_count (of42 _) rfl
theorem dX11_count_137 : decode cX11_count 137 = .ok (.getfield 28, 3) := dec_2 oX11_count (of180 _) 0 28 rfl rfl
theorem dX11_count_140 : decode cX11_count 140 = .ok (.invokevirtual 378, 3) := dec_2 oX11_count (of182 _) 1 122 rfl rfl
theorem dX11_count_143 : decode cX11_count 143 = .ok (.ireturn, 1) := dec_0 oX11_count (of172 _) rfl
theorem dX11_count_144 : decode cX11_count 144 = .ok (.aload_n 0, 1) := dec_0 oX11_count (of42 _) rfl
theorem dX11_count_145 : decode cX11_count 145 = .ok (.getfield 10, 3) := dec_2 oX11_count (of180 _) 0 10 rfl rfl
theorem dX11_count_148 : decode cX11_count 148 = .ok (.getfield 85, 3) := dec_2 oX11_count (of180 _) 0 85 rfl rfl
theorem dX11_count_151 : decode cX11_count 151 = .ok (.ireturn, 1) := dec_0 oX11_count (of172 _) rfl
theorem dX11_count_152 : decode cX11_count 152 = .ok (.aload_n 0, 1) := dec_0 oX11_count (of42 _) rfl
theorem dX11_count_153 : decode cX11_count 153 = .ok (.getfield 49, 3) := dec_2 oX11_count (of180 _) 0 49 rfl rfl
theorem dX11_count_156 : decode cX11_count 156 = .ok (.getfield 381, 3) := dec_2 oX11_count (of180 _) 1 125 rfl rfl
theorem dX11_count_159 : decode cX11_count 159 = .ok (.ireturn, 1) := dec_0 oX11_count (of172 _) rfl
theorem dX11_count_160 : decode cX11_count 160 = .ok (.aload_n 0, 1) := dec_0 oX11_count (of42 _) rfl
theorem dX11_count_161 : decode cX11_count 161 = .ok (.getfield 28, 3) := dec_2 oX11_count (of180 _) 0 28 rfl rfl
theorem dX11_count_164 : decode cX11_count 164 = .ok (.iconst 0, 1) := dec_0 oX11_count (of3 _) rfl
theorem dX11_count_165 : decode cX11_count 165 = .ok (.aload_n 0, 1) := dec_0 oX11_count (of42 _) rfl
theorem dX11_count_166 : decode cX11_count 166 = .ok (.getfield 28, 3) := dec_2 oX11_count (of180 _) 0 28 rfl rfl
theorem dX11_count_169 : decode cX11_count 169 = .ok (.getfield 138, 3) := dec_2 oX11_count (of180 _) 0 138 rfl rfl
theorem dX11_count_172 : decode cX11_count 172 = .ok (.invokevirtual 187, 3) := dec_2 oX11_count (of182 _) 0 187 rfl rfl
theorem dX11_count_175 : decode cX11_count 175 = .ok (.ireturn, 1) := dec_0 oX11_count (of172 _) rfl
theorem dX11_count_176 : decode cX11_count 176 = .ok (.aload_n 0, 1) := dec_0 oX11_count (of42 _) rfl
theorem dX11_count_177 : decode cX11_count 177 = .ok (.invokevirtual 382, 3) := dec_2 oX11_count (of182 _) 1 126 rfl rfl
theorem dX11_count_180 : decode cX11_count 180 = .ok (.ireturn, 1) := dec_0 oX11_count (of172 _) rfl
theorem dX11_count_181 : decode cX11_count 181 = .ok (.aload_n 0, 1) := dec_0 oX11_count (of42 _) rfl
theorem dX11_count_182 : decode cX11_count 182 = .ok (.getfield 28, 3) := dec_2 oX11_count (of180 _) 0 28 rfl rfl
theorem dX11_count_185 : decode cX11_count 185 = .ok (.iconst 0, 1) := dec_0 oX11_count (of3 _) rfl
theorem dX11_count_186 : decode cX11_count 186 = .ok (.aload_n 0, 1) := dec_0 oX11_count (of42 _) rfl
theorem dX11_count_187 : decode cX11_count 187 = .ok (.getfield 28, 3) := dec_2 oX11_count (of180 _) 0 28 rfl rfl
theorem dX11_count_190 : decode cX11_count 190 = .ok (.getfield 138, 3) := dec_2 oX11_count (of180 _) 0 138 rfl rfl
theorem dX11_count_193 : decode cX11_count 193 = .ok (.invokevirtual 193, 3) := dec_2 oX11_count (of182 _) 0 193 rfl rfl
theorem dX11_count_196 : decode cX11_count 196 = .ok (.ireturn, 1) := dec_0 oX11_count (of172 _) rfl
theorem dX11_count_197 : decode cX11_count 197 = .ok (.aload_n 0, 1) := dec_0 oX11_count (of42 _) rfl
theorem dX11_count_198 : decode cX11_count 198 = .ok (.getfield 28, 3) := dec_2 oX11_count (of180 _) 0 28 rfl rfl
theorem dX11_count_201 : decode cX11_count 201 = .ok (.iconst 0, 1) := dec_0 oX11_count (of3 _) rfl
theorem dX11_count_202 : decode cX11_count 202 = .ok (.aload_n 0, 1) := dec_0 oX11_count (of42 _) rfl
theorem dX11_count_203 : decode cX11_count 203 = .ok (.getfield 28, 3) := dec_2 oX11_count (of180 _) 0 28 rfl rfl
theorem dX11_count_206 : decode cX11_count 206 = .ok (.getfield 138, 3) := dec_2 oX11_count (of180 _) 0 138 rfl rfl
theorem dX11_count_209 : decode cX11_count 209 = .ok (.invokevirtual 190, 3) := dec_2 oX11_count (of182 _) 0 190 rfl rfl
theorem dX11_count_212 : decode cX11_count 212 = .ok (.ireturn, 1) := dec_0 oX11_count (of172 _) rfl
theorem dX11_count_213 : decode cX11_count 213 = .ok (.aload_n 0, 1) := dec_0 oX11_count (of42 _) rfl
theorem dX11_count_214 : decode cX11_count 214 = .ok (.getfield 28, 3) := dec_2 oX11_count (of180 _) 0 28 rfl rfl
theorem dX11_count_217 : decode cX11_count 217 = .ok (.iconst 0, 1) := dec_0 oX11_count (of3 _) rfl
theorem dX11_count_218 : decode cX11_count 218 = .ok (.invokevirtual 359, 3) := dec_2 oX11_count (of182 _) 1 103 rfl rfl
theorem dX11_count_221 : decode cX11_count 221 = .ok (.ireturn, 1) := dec_0 oX11_count (of172 _) rfl
theorem dX11_count_222 : decode cX11_count 222 = .ok (.iconst (-1), 1) := dec_0 oX11_count (of2 _) rfl
theorem dX11_count_223 : decode cX11_count 223 = .ok (.ireturn, 1) := dec_0 oX11_count (of172 _) rfl
theorem dX11_count_76 : decode cX11_count 76 = .ok (.aload_n 0, 1) := dec_0 oX11_count (of42 _) rfl
theorem dX11_count_77 : decode cX11_count 77 = .ok (.getfield 28, 3) := dec_2 oX11_count (of180 _) 0 28 rfl rfl
theorem dX11_count_80 : decode cX11_count 80 = .ok (.getfield 138, 3) := dec_2 oX11_count (of180 _) 0 138 rfl rfl
theorem dX11_count_83 : decode cX11_count 83 = .ok (.ireturn, 1) := dec_0 oX11_count (of172 _) rfl
theorem dX11_count_84 : decode cX11_count 84 = .ok (.aload_n 0, 1) := dec_0 oX11_count (of42 _) rfl
theorem dX11_count_85 : decode cX11_count 85 = .ok (.getfield 28, 3) := dec_2 oX11_count (of180 _) 0 28 rfl rfl
theorem dX11_count_88 : decode cX11_count 88 = .ok (.invokevirtual 374, 3) := dec_2 oX11_count (of182 _) 1 118 rfl rfl
theorem dX11_count_91 : decode cX11_count 91 = .ok (.ireturn, 1) := dec_0 oX11_count (of172 _) rfl
theorem dX11_count_92 : decode cX11_count 92 = .ok (.aload_n 0, 1) := dec_0 oX11_count (of42 _) rfl
theorem dX11_count_93 : decode cX11_count 93 = .ok (.getfield 35, 3) := dec_2 oX11_count (of180 _) 0 35 rfl rfl
theorem dX11_count_96 : decode cX11_count 96 = .ok (.getfield 377, 3) := dec_2 oX11_count (of180 _) 1 121 rfl rfl
theorem dX11_count_99 : decode cX11_count 99 = .ok (.ireturn, 1) := dec_0 oX11_count (of172 _) rfl
theorem dX11_cover_0 : decode cX11_cover 0 = .ok (.iload_n 2, 1) := dec_0 oX11_cover (of28 _) rfl
theorem dX11_cover_1 : decode cX11_cover 1 = .ok (.ifCond .lt 14, 3) := dec_s2 oX11_cover (of155 _) 0 14 rfl (sg16p rfl) rfl
theorem dX11_cover_12 : decode cX11_cover 12 = .ok (.ifCond .ne 5, 3) := dec_s2 oX11_cover (of154 _) 0 5 rfl (sg16p rfl) rfl
theorem dX11_cover_15 : decode cX11_cover 15 = .ok (.iconst (-1), 1) := dec_0 oX11_cover (of2 _) rfl
theorem dX11_cover_16 : decode cX11_cover 16 = .ok (.ireturn, 1) := dec_0 oX11_cover (of172 _) rfl
theorem dX11_cover_4 : decode cX11_cover 4 = .ok (.aload_n 0, 1) := dec_0 oX11_cover (of42 _) rfl
theorem dX11_cover_5 : decode cX11_cover 5 = .ok (.getfield 35, 3) := dec_2 oX11_cover (of180 _) 0 35 rfl rfl
theorem dX11_cover_8 : decode cX11_cover 8 = .ok (.iload_n 1, 1) := dec_0 oX11_cover (of27 _) rfl
theorem dX11_cover_9 : decode cX11_cover 9 = .ok (.invokevirtual 251, 3) := dec_2 oX11_cover (of182 _) 0 251 rfl rfl
theorem dX11_distance_0 : decode cX11_distance 0 = .ok (.aload_n 0, 1) := dec_0 oX11_distance (of42 _) rfl
theorem dX11_distance_1 : decode cX11_distance 1 = .ok (.getfield 65, 3) := dec_2 oX11_distance (of180 _) 0 65 rfl rfl
theorem dX11_distance_25 : decode cX11_distance 25 = .ok (.iconst (-1), 1) := dec_0 oX11_distance (of2 _) rfl
theorem dX11_distance_26 : decode cX11_distance 26 = .ok (.ireturn, 1) := dec_0 oX11_distance (of172 _) rfl
theorem dX11_distance_4 : decode cX11_distance 4 = .ok (.iload_n 1, 1) := dec_0 oX11_distance (of27 _) rfl
theorem dX11_distance_5 : decode cX11_distance 5 = .ok (.iload_n 2, 1) := dec_0 oX11_distance (of28 _) rfl
theorem dX11_distance_6 : decode cX11_distance 6 = .ok (.invokevirtual 212, 3) := dec_2 oX11_distance (of182 _) 0 212 rfl rfl
theorem dX11_distance_9 : decode cX11_distance 9 = .ok (.ifCond .eq 16, 3) := dec_s2 oX11_distance (of153 _) 0 16 rfl (sg16p rfl) rfl
theorem dX11_drop_0 : decode cX11_drop 0 = .ok (.aload_n 0, 1) := dec_0 oX11_drop (of42 _) rfl
theorem dX11_drop_1 : decode cX11_drop 1 = .ok (.getfield 28, 3) := dec_2 oX11_drop (of180 _) 0 28 rfl rfl
theorem dX11_drop_11 : decode cX11_drop 11 = .ok (.iconst 0, 1) := dec_0 oX11_drop (of3 _) rfl
theorem dX11_drop_12 : decode cX11_drop 12 = .ok (.ireturn, 1) := dec_0 oX11_drop (of172 _) rfl
theorem dX11_drop_4 : decode cX11_drop 4 = .ok (.iload_n 1, 1) := dec_0 oX11_drop (of27 _) rfl
theorem dX11_drop_5 : decode cX11_drop 5 = .ok (.invokevirtual 151, 3) := dec_2 oX11_drop (of182 _) 0 151 rfl rfl
theorem dX11_drop_8 : decode cX11_drop 8 = .ok (.ifCond .ne 5, 3) := dec_s2 oX11_drop (of154 _) 0 5 rfl (sg16p rfl) rfl
theorem dX11_feed_0 : decode cX11_feed 0 = .ok (.aload_n 0, 1) := dec_0 oX11_feed (of42 _) rfl
theorem dX11_feed_1 : decode cX11_feed 1 = .ok (.getfield 10, 3) := dec_2 oX11_feed (of180 _) 0 10 rfl rfl
theorem dX11_feed_10 : decode cX11_feed 10 = .ok (.if_icmp .le 5, 3) := dec_s2 oX11_feed (of164 _) 0 5 rfl (sg16p rfl) rfl
theorem dX11_feed_15 : decode cX11_feed 15 = .ok (.aload_n 0, 1) := dec_0 oX11_feed (of42 _) rfl
theorem dX11_feed_16 : decode cX11_feed 16 = .ok (.getfield 10, 3) := dec_2 oX11_feed (of180 _) 0 10 rfl rfl
theorem dX11_feed_19 : decode cX11_feed 19 = .ok (.iload_n 1, 1) := dec_0 oX11_feed (of27 _) rfl
theorem dX11_feed_20 : decode cX11_feed 20 = .ok (.invokevirtual 89, 3) := dec_2 oX11_feed (of182 _) 0 89 rfl rfl
theorem dX11_feed_23 : decode cX11_feed 23 = .ok (.aload_n 0, 1) := dec_0 oX11_feed (of42 _) rfl
theorem dX11_feed_24 : decode cX11_feed 24 = .ok (.getfield 10, 3) := dec_2 oX11_feed (of180 _) 0 10 rfl rfl
theorem dX11_feed_27 : decode cX11_feed 27 = .ok (.iload_n 2, 1) := dec_0 oX11_feed (of28 _) rfl
theorem dX11_feed_28 : decode cX11_feed 28 = .ok (.invokevirtual 89, 3) := dec_2 oX11_feed (of182 _) 0 89 rfl rfl
theorem dX11_feed_31 : decode cX11_feed 31 = .ok (.aload_n 0, 1) := dec_0 oX11_feed (of42 _) rfl
theorem dX11_feed_32 : decode cX11_feed 32 = .ok (.getfield 10, 3) := dec_2 oX11_feed (of180 _) 0 10 rfl rfl
theorem dX11_feed_35 : decode cX11_feed 35 = .ok (.iload_n 3, 1) := dec_0 oX11_feed (of29 _) rfl
theorem dX11_feed_36 : decode cX11_feed 36 = .ok (.invokevirtual 89, 3) := dec_2 oX11_feed (of182 _) 0 89 rfl rfl
theorem dX11_feed_39 : decode cX11_feed 39 = .ok (.aload_n 0, 1) := dec_0 oX11_feed (of42 _) rfl
theorem dX11_feed_4 : decode cX11_feed 4 = .ok (.getfield 85, 3) := dec_2 oX11_feed (of180 _) 0 85 rfl rfl
theorem dX11_feed_40 : decode cX11_feed 40 = .ok (.getfield 10, 3) := dec_2 oX11_feed (of180 _) 0 10 rfl rfl
theorem dX11_feed_43 : decode cX11_feed 43 = .ok (.iload 4, 2) := dec_1 oX11_feed (of21 _) 4 rfl rfl
theorem dX11_feed_45 : decode cX11_feed 45 = .ok (.invokevirtual 89, 3) := dec_2 oX11_feed (of182 _) 0 89 rfl rfl
theorem dX11_feed_48 : decode cX11_feed 48 = .ok (.aload_n 0, 1) := dec_0 oX11_feed (of42 _) rfl
theorem dX11_feed_49 : decode cX11_feed 49 = .ok (.getfield 10, 3) := dec_2 oX11_feed (of180 _) 0 10 rfl rfl
theorem dX11_feed_52 : decode cX11_feed 52 = .ok (.iload 5, 2) := dec_1 oX11_feed (of21 _) 5 rfl rfl
theorem dX11_feed_54 : decode cX11_feed 54 = .ok (.invokevirtual 89, 3) := dec_2 oX11_feed (of182 _) 0 89 rfl rfl
theorem dX11_feed_57 : decode cX11_feed 57 = .ok (.aload_n 0, 1) := dec_0 oX11_feed (of42 _) rfl
theorem dX11_feed_58 : decode cX11_feed 58 = .ok (.getfield 10, 3) := dec_2 oX11_feed (of180 _) 0 10 rfl rfl
theorem dX11_feed_61 : decode cX11_feed 61 = .ok (.getfield 85, 3) := dec_2 oX11_feed (of180 _) 0 85 rfl rfl
theorem dX11_feed_64 : decode cX11_feed 64 = .ok (.ireturn, 1) := dec_0 oX11_feed (of172 _) rfl
theorem dX11_feed_7 : decode cX11_feed 7 = .ok (.sipush 1980, 3) := dec_s2 oX11_feed (of17 _) 7 188 rfl (sg16p rfl) rfl
theorem dX11_fired_0 : decode cX11_fired 0 = .ok (.iload_n 1, 1) := dec_0 oX11_fired (of27 _) rfl
theorem dX11_fired_1 : decode cX11_fired 1 = .ok (.ifCond .ge 7, 3) := dec_s2 oX11_fired (of156 _) 0 7 rfl (sg16p rfl) rfl
theorem dX11_fired_12 : decode cX11_fired 12 = .ok (.iload_n 1, 1) := dec_0 oX11_fired (of27 _) rfl
theorem dX11_fired_13 : decode cX11_fired 13 = .ok (.invokevirtual 266, 3) := dec_2 oX11_fired (of182 _) 1 10 rfl rfl
theorem dX11_fired_16 : decode cX11_fired 16 = .ok (.ireturn, 1) := dec_0 oX11_fired (of172 _) rfl
theorem dX11_fired_4 : decode cX11_fired 4 = .ok (.iconst (-1), 1) := dec_0 oX11_fired (of2 _) rfl
theorem dX11_fired_5 : decode cX11_fired 5 = .ok (.goto 11, 3) := dec_s2 oX11_fired (of167 _) 0 11 rfl (sg16p rfl) rfl
theorem dX11_fired_8 : decode cX11_fired 8 = .ok (.aload_n 0, 1) := dec_0 oX11_fired (of42 _) rfl
theorem dX11_fired_9 : decode cX11_fired 9 = .ok (.getfield 74, 3) := dec_2 oX11_fired (of180 _) 0 74 rfl rfl
theorem dX11_flat_0 : decode cX11_flat 0 = .ok (.iload_n 1, 1) := dec_0 oX11_flat (of27 _) rfl
theorem dX11_flat_1 : decode cX11_flat 1 = .ok (.iconst 1, 1) := dec_0 oX11_flat (of4 _) rfl
theorem dX11_flat_12 : decode cX11_flat 12 = .ok (.iconst (-1), 1) := dec_0 oX11_flat (of2 _) rfl
theorem dX11_flat_13 : decode cX11_flat 13 = .ok (.goto 11, 3) := dec_s2 oX11_flat (of167 _) 0 11 rfl (sg16p rfl) rfl
theorem dX11_flat_16 : decode cX11_flat 16 = .ok (.aload_n 0, 1) := dec_0 oX11_flat (of42 _) rfl
theorem dX11_flat_17 : decode cX11_flat 17 = .ok (.getfield 28, 3) := dec_2 oX11_flat (of180 _) 0 28 rfl rfl
theorem dX11_flat_2 : decode cX11_flat 2 = .ok (.if_icmp .lt 10, 3) := dec_s2 oX11_flat (of161 _) 0 10 rfl (sg16p rfl) rfl
theorem dX11_flat_20 : decode cX11_flat 20 = .ok (.iload_n 1, 1) := dec_0 oX11_flat (of27 _) rfl
theorem dX11_flat_21 : decode cX11_flat 21 = .ok (.invokevirtual 353, 3) := dec_2 oX11_flat (of182 _) 1 97 rfl rfl
theorem dX11_flat_24 : decode cX11_flat 24 = .ok (.ireturn, 1) := dec_0 oX11_flat (of172 _) rfl
theorem dX11_flat_5 : decode cX11_flat 5 = .ok (.iload_n 1, 1) := dec_0 oX11_flat (of27 _) rfl
theorem dX11_flat_6 : decode cX11_flat 6 = .ok (.sipush 160, 3) := dec_s2 oX11_flat (of17 _) 0 160 rfl (sg16p rfl) rfl
theorem dX11_flat_9 : decode cX11_flat 9 = .ok (.if_icmp .le 7, 3) := dec_s2 oX11_flat (of164 _) 0 7 rfl (sg16p rfl) rfl
theorem dX11_gap_0 : decode cX11_gap 0 = .ok (.aload_n 0, 1) := dec_0 oX11_gap (of42 _) rfl
theorem dX11_gap_1 : decode cX11_gap 1 = .ok (.sipush (-1000), 3) := dec_s2 oX11_gap (of17 _) 252 24 rfl (sg16n (k := 1000) rfl) rfl
theorem dX11_gap_4 : decode cX11_gap 4 = .ok (.invokevirtual 127, 3) := dec_2 oX11_gap (of182 _) 0 127 rfl rfl
theorem dX11_gap_7 : decode cX11_gap 7 = .ok (.ireturn, 1) := dec_0 oX11_gap (of172 _) rfl
theorem dX11_goOnFrom_0 : decode cX11_goOnFrom 0 = .ok (.aload_n 0, 1) := dec_0 oX11_goOnFrom (of42 _) rfl
theorem dX11_goOnFrom_1 : decode cX11_goOnFrom 1 = .ok (.getfield 28, 3) := dec_2 oX11_goOnFrom (of180 _) 0 28 rfl rfl
theorem dX11_goOnFrom_12 : decode cX11_goOnFrom 12 = .ok (.aload_n 1, 1) := dec_0 oX11_goOnFrom (of43 _) rfl
theorem dX11_goOnFrom_13 : decode cX11_goOnFrom 13 = .ok (.getfield 365, 3) := dec_2 oX11_goOnFrom (of180 _) 1 109 rfl rfl
theorem dX11_goOnFrom_16 : decode cX11_goOnFrom 16 = .ok (.invokevirtual 366, 3) := dec_2 oX11_goOnFrom (of182 _) 1 110 rfl rfl
theorem dX11_goOnFrom_19 : decode cX11_goOnFrom 19 = .ok (.aload_n 0, 1) := dec_0 oX11_goOnFrom (of42 _) rfl
theorem dX11_goOnFrom_20 : decode cX11_goOnFrom 20 = .ok (.getfield 49, 3) := dec_2 oX11_goOnFrom (of180 _) 0 49 rfl rfl
theorem dX11_goOnFrom_23 : decode cX11_goOnFrom 23 = .ok (.invokevirtual 371, 3) := dec_2 oX11_goOnFrom (of182 _) 1 115 rfl rfl
theorem dX11_goOnFrom_26 : decode cX11_goOnFrom 26 = .ok (.return_, 1) := dec_0 oX11_goOnFrom (of177 _) rfl
theorem dX11_goOnFrom_4 : decode cX11_goOnFrom 4 = .ok (.aload_n 1, 1) := dec_0 oX11_goOnFrom (of43 _) rfl
theorem dX11_goOnFrom_5 : decode cX11_goOnFrom 5 = .ok (.invokevirtual 369, 3) := dec_2 oX11_goOnFrom (of182 _) 1 113 rfl rfl
theorem dX11_goOnFrom_8 : decode cX11_goOnFrom 8 = .ok (.aload_n 0, 1) := dec_0 oX11_goOnFrom (of42 _) rfl
theorem dX11_goOnFrom_9 : decode cX11_goOnFrom 9 = .ok (.getfield 42, 3) := dec_2 oX11_goOnFrom (of180 _) 0 42 rfl rfl
theorem dX11_hold_0 : decode cX11_hold 0 = .ok (.iload_n 1, 1) := dec_0 oX11_hold (of27 _) rfl
theorem dX11_hold_1 : decode cX11_hold 1 = .ok (.ifCond .lt 12, 3) := dec_s2 oX11_hold (of155 _) 0 12 rfl (sg16p rfl) rfl
theorem dX11_hold_10 : decode cX11_hold 10 = .ok (.if_icmp .lt 5, 3) := dec_s2 oX11_hold (of161 _) 0 5 rfl (sg16p rfl) rfl
theorem dX11_hold_13 : decode cX11_hold 13 = .ok (.iconst 0, 1) := dec_0 oX11_hold (of3 _) rfl
theorem dX11_hold_14 : decode cX11_hold 14 = .ok (.ireturn, 1) := dec_0 oX11_hold (of172 _) rfl
theorem dX11_hold_15 : decode cX11_hold 15 = .ok (.aload_n 0, 1) := dec_0 oX11_hold (of42 _) rfl
theorem dX11_hold_16 : decode cX11_hold 16 = .ok (.getfield 56, 3) := dec_2 oX11_hold (of180 _) 0 56 rfl rfl
theorem dX11_hold_19 : decode cX11_hold 19 = .ok (.iload_n 1, 1) := dec_0 oX11_hold (of27 _) rfl
theorem dX11_hold_20 : decode cX11_hold 20 = .ok (.aaload, 1) := dec_0 oX11_hold (of50 _) rfl
theorem dX11_hold_21 : decode cX11_hold 21 = .ok (.astore_n 2, 1) := dec_0 oX11_hold (of77 _) rfl
theorem dX11_hold_22 : decode cX11_hold 22 = .ok (.aload_n 0, 1) := dec_0 oX11_hold (of42 _) rfl
theorem dX11_hold_23 : decode cX11_hold 23 = .ok (.getfield 28, 3) := dec_2 oX11_hold (of180 _) 0 28 rfl rfl
theorem dX11_hold_26 : decode cX11_hold 26 = .ok (.aload_n 2, 1) := dec_0 oX11_hold (of44 _) rfl
theorem dX11_hold_27 : decode cX11_hold 27 = .ok (.invokevirtual 362, 3) := dec_2 oX11_hold (of182 _) 1 106 rfl rfl
theorem dX11_hold_30 : decode cX11_hold 30 = .ok (.aload_n 2, 1) := dec_0 oX11_hold (of44 _) rfl
theorem dX11_hold_31 : decode cX11_hold 31 = .ok (.getfield 365, 3) := dec_2 oX11_hold (of180 _) 1 109 rfl rfl
theorem dX11_hold_34 : decode cX11_hold 34 = .ok (.aload_n 0, 1) := dec_0 oX11_hold (of42 _) rfl
theorem dX11_hold_35 : decode cX11_hold 35 = .ok (.getfield 42, 3) := dec_2 oX11_hold (of180 _) 0 42 rfl rfl
theorem dX11_hold_38 : decode cX11_hold 38 = .ok (.invokevirtual 366, 3) := dec_2 oX11_hold (of182 _) 1 110 rfl rfl
theorem dX11_hold_4 : decode cX11_hold 4 = .ok (.iload_n 1, 1) := dec_0 oX11_hold (of27 _) rfl
theorem dX11_hold_41 : decode cX11_hold 41 = .ok (.aload_n 2, 1) := dec_0 oX11_hold (of44 _) rfl
theorem dX11_hold_42 : decode cX11_hold 42 = .ok (.iconst 1, 1) := dec_0 oX11_hold (of4 _) rfl
theorem dX11_hold_43 : decode cX11_hold 43 = .ok (.putfield 110, 3) := dec_2 oX11_hold (of181 _) 0 110 rfl rfl
theorem dX11_hold_46 : decode cX11_hold 46 = .ok (.iconst 1, 1) := dec_0 oX11_hold (of4 _) rfl
theorem dX11_hold_47 : decode cX11_hold 47 = .ok (.ireturn, 1) := dec_0 oX11_hold (of172 _) rfl
theorem dX11_hold_5 : decode cX11_hold 5 = .ok (.aload_n 0, 1) := dec_0 oX11_hold (of42 _) rfl
theorem dX11_hold_6 : decode cX11_hold 6 = .ok (.getfield 56, 3) := dec_2 oX11_hold (of180 _) 0 56 rfl rfl
theorem dX11_hold_9 : decode cX11_hold 9 = .ok (.arraylength, 1) := dec_0 oX11_hold (of190 _) rfl
theorem dX11_init_0 : decode cX11_init 0 = .ok (.aload_n 0, 1) := dec_0 oX11_init (of42 _) rfl
theorem dX11_init_1 : decode cX11_init 1 = .ok (.invokespecial 1, 3) := dec_2 oX11_init (of183 _) 0 1 rfl rfl
theorem dX11_init_100 : decode cX11_init 100 = .ok (.iconst 2, 1) := dec_0 oX11_init (of5 _) rfl
theorem dX11_init_101 : decode cX11_init 101 = .ok (.new 53, 3) := dec_2 oX11_init (of187 _) 0 53 rfl rfl
theorem dX11_init_104 : decode cX11_init 104 = .ok (.dup, 1) := dec_0 oX11_init (of89 _) rfl
theorem dX11_init_105 : decode cX11_init 105 = .ok (.invokespecial 55, 3) := dec_2 oX11_init (of183 _) 0 55 rfl rfl
theorem dX11_init_108 : decode cX11_init 108 = .ok (.aastore, 1) := dec_0 oX11_init (of83 _) rfl
theorem dX11_init_109 : decode cX11_init 109 = .ok (.putfield 56, 3) := dec_2 oX11_init (of181 _) 0 56 rfl rfl
theorem dX11_init_112 : decode cX11_init 112 = .ok (.aload_n 0, 1) := dec_0 oX11_init (of42 _) rfl
theorem dX11_init_113 : decode cX11_init 113 = .ok (.new 60, 3) := dec_2 oX11_init (of187 _) 0 60 rfl rfl
theorem dX11_init_116 : decode cX11_init 116 = .ok (.dup, 1) := dec_0 oX11_init (of89 _) rfl
theorem dX11_init_117 : decode cX11_init 117 = .ok (.aload_n 0, 1) := dec_0 oX11_init (of42 _) rfl
theorem dX11_init_118 : decode cX11_init 118 = .ok (.getfield 28, 3) := dec_2 oX11_init (of180 _) 0 28 rfl rfl
theorem dX11_init_12 : decode cX11_init 12 = .ok (.putfield 10, 3) := dec_2 oX11_init (of181 _) 0 10 rfl rfl
theorem dX11_init_121 : decode cX11_init 121 = .ok (.aload_n 0, 1) := dec_0 oX11_init (of42 _) rfl
theorem dX11_init_122 : decode cX11_init 122 = .ok (.getfield 35, 3) := dec_2 oX11_init (of180 _) 0 35 rfl rfl
theorem dX11_init_125 : decode cX11_init 125 = .ok (.aload_n 0, 1) := dec_0 oX11_init (of42 _) rfl
theorem dX11_init_126 : decode cX11_init 126 = .ok (.getfield 42, 3) := dec_2 oX11_init (of180 _) 0 42 rfl rfl
theorem dX11_init_129 : decode cX11_init 129 = .ok (.invokespecial 62, 3) := dec_2 oX11_init (of183 _) 0 62 rfl rfl
theorem dX11_init_132 : decode cX11_init 132 = .ok (.putfield 65, 3) := dec_2 oX11_init (of181 _) 0 65 rfl rfl
theorem dX11_init_135 : decode cX11_init 135 = .ok (.aload_n 0, 1) := dec_0 oX11_init (of42 _) rfl
theorem dX11_init_136 : decode cX11_init 136 = .ok (.new 69, 3) := dec_2 oX11_init (of187 _) 0 69 rfl rfl
theorem dX11_init_139 : decode cX11_init 139 = .ok (.dup, 1) := dec_0 oX11_init (of89 _) rfl
theorem dX11_init_140 : decode cX11_init 140 = .ok (.aload_n 0, 1) := dec_0 oX11_init (of42 _) rfl
theorem dX11_init_141 : decode cX11_init 141 = .ok (.getfield 65, 3) := dec_2 oX11_init (of180 _) 0 65 rfl rfl
theorem dX11_init_144 : decode cX11_init 144 = .ok (.invokespecial 71, 3) := dec_2 oX11_init (of183 _) 0 71 rfl rfl
theorem dX11_init_147 : decode cX11_init 147 = .ok (.putfield 74, 3) := dec_2 oX11_init (of181 _) 0 74 rfl rfl
theorem dX11_init_15 : decode cX11_init 15 = .ok (.aload_n 0, 1) := dec_0 oX11_init (of42 _) rfl
theorem dX11_init_150 : decode cX11_init 150 = .ok (.aload_n 0, 1) := dec_0 oX11_init (of42 _) rfl
theorem dX11_init_151 : decode cX11_init 151 = .ok (.new 78, 3) := dec_2 oX11_init (of187 _) 0 78 rfl rfl
theorem dX11_init_154 : decode cX11_init 154 = .ok (.dup, 1) := dec_0 oX11_init (of89 _) rfl
theorem dX11_init_155 : decode cX11_init 155 = .ok (.aload_n 0, 1) := dec_0 oX11_init (of42 _) rfl
theorem dX11_init_156 : decode cX11_init 156 = .ok (.getfield 65, 3) := dec_2 oX11_init (of180 _) 0 65 rfl rfl
theorem dX11_init_159 : decode cX11_init 159 = .ok (.invokespecial 80, 3) := dec_2 oX11_init (of183 _) 0 80 rfl rfl
theorem dX11_init_16 : decode cX11_init 16 = .ok (.new 16, 3) := dec_2 oX11_init (of187 _) 0 16 rfl rfl
theorem dX11_init_162 : decode cX11_init 162 = .ok (.putfield 81, 3) := dec_2 oX11_init (of181 _) 0 81 rfl rfl
theorem dX11_init_165 : decode cX11_init 165 = .ok (.return_, 1) := dec_0 oX11_init (of177 _) rfl
theorem dX11_init_19 : decode cX11_init 19 = .ok (.dup, 1) := dec_0 oX11_init (of89 _) rfl
theorem dX11_init_20 : decode cX11_init 20 = .ok (.aload_n 0, 1) := dec_0 oX11_init (of42 _) rfl
theorem dX11_init_21 : decode cX11_init 21 = .ok (.getfield 10, 3) := dec_2 oX11_init (of180 _) 0 10 rfl rfl
theorem dX11_init_24 : decode cX11_init 24 = .ok (.invokespecial 18, 3) := dec_2 oX11_init (of183 _) 0 18 rfl rfl
theorem dX11_init_27 : decode cX11_init 27 = .ok (.putfield 21, 3) := dec_2 oX11_init (of181 _) 0 21 rfl rfl
theorem dX11_init_30 : decode cX11_init 30 = .ok (.aload_n 0, 1) := dec_0 oX11_init (of42 _) rfl
theorem dX11_init_31 : decode cX11_init 31 = .ok (.new 25, 3) := dec_2 oX11_init (of187 _) 0 25 rfl rfl
theorem dX11_init_34 : decode cX11_init 34 = .ok (.dup, 1) := dec_0 oX11_init (of89 _) rfl
theorem dX11_init_35 : decode cX11_init 35 = .ok (.invokespecial 27, 3) := dec_2 oX11_init (of183 _) 0 27 rfl rfl
theorem dX11_init_38 : decode cX11_init 38 = .ok (.putfield 28, 3) := dec_2 oX11_init (of181 _) 0 28 rfl rfl
theorem dX11_init_4 : decode cX11_init 4 = .ok (.aload_n 0, 1) := dec_0 oX11_init (of42 _) rfl
theorem dX11_init_41 : decode cX11_init 41 = .ok (.aload_n 0, 1) := dec_0 oX11_init (of42 _) rfl
theorem dX11_init_42 : decode cX11_init 42 = .ok (.new 32, 3) := dec_2 oX11_init (of187 _) 0 32 rfl rfl
theorem dX11_init_45 : decode cX11_init 45 = .ok (.dup, 1) := dec_0 oX11_init (of89 _) rfl
theorem dX11_init_46 : decode cX11_init 46 = .ok (.invokespecial 34, 3) := dec_2 oX11_init (of183 _) 0 34 rfl rfl
theorem dX11_init_49 : decode cX11_init 49 = .ok (.putfield 35, 3) := dec_2 oX11_init (of181 _) 0 35 rfl rfl
theorem dX11_init_5 : decode cX11_init 5 = .ok (.new 7, 3) := dec_2 oX11_init (of187 _) 0 7 rfl rfl
theorem dX11_init_52 : decode cX11_init 52 = .ok (.aload_n 0, 1) := dec_0 oX11_init (of42 _) rfl
theorem dX11_init_53 : decode cX11_init 53 = .ok (.new 39, 3) := dec_2 oX11_init (of187 _) 0 39 rfl rfl
theorem dX11_init_56 : decode cX11_init 56 = .ok (.dup, 1) := dec_0 oX11_init (of89 _) rfl
theorem dX11_init_57 : decode cX11_init 57 = .ok (.invokespecial 41, 3) := dec_2 oX11_init (of183 _) 0 41 rfl rfl
theorem dX11_init_60 : decode cX11_init 60 = .ok (.putfield 42, 3) := dec_2 oX11_init (of181 _) 0 42 rfl rfl
theorem dX11_init_63 : decode cX11_init 63 = .ok (.aload_n 0, 1) := dec_0 oX11_init (of42 _) rfl
theorem dX11_init_64 : decode cX11_init 64 = .ok (.new 46, 3) := dec_2 oX11_init (of187 _) 0 46 rfl rfl
theorem dX11_init_67 : decode cX11_init 67 = .ok (.dup, 1) := dec_0 oX11_init (of89 _) rfl
theorem dX11_init_68 : decode cX11_init 68 = .ok (.invokespecial 48, 3) := dec_2 oX11_init (of183 _) 0 48 rfl rfl
theorem dX11_init_71 : decode cX11_init 71 = .ok (.putfield 49, 3) := dec_2 oX11_init (of181 _) 0 49 rfl rfl
theorem dX11_init_74 : decode cX11_init 74 = .ok (.aload_n 0, 1) := dec_0 oX11_init (of42 _) rfl
theorem dX11_init_75 : decode cX11_init 75 = .ok (.iconst 3, 1) := dec_0 oX11_init (of6 _) rfl
theorem dX11_init_76 : decode cX11_init 76 = .ok (.anewarray 53, 3) := dec_2 oX11_init (of189 _) 0 53 rfl rfl
theorem dX11_init_79 : decode cX11_init 79 = .ok (.dup, 1) := dec_0 oX11_init (of89 _) rfl
theorem dX11_init_8 : decode cX11_init 8 = .ok (.dup, 1) := dec_0 oX11_init (of89 _) rfl
theorem dX11_init_80 : decode cX11_init 80 = .ok (.iconst 0, 1) := dec_0 oX11_init (of3 _) rfl
theorem dX11_init_81 : decode cX11_init 81 = .ok (.new 53, 3) := dec_2 oX11_init (of187 _) 0 53 rfl rfl
theorem dX11_init_84 : decode cX11_init 84 = .ok (.dup, 1) := dec_0 oX11_init (of89 _) rfl
theorem dX11_init_85 : decode cX11_init 85 = .ok (.invokespecial 55, 3) := dec_2 oX11_init (of183 _) 0 55 rfl rfl
theorem dX11_init_88 : decode cX11_init 88 = .ok (.aastore, 1) := dec_0 oX11_init (of83 _) rfl
theorem dX11_init_89 : decode cX11_init 89 = .ok (.dup, 1) := dec_0 oX11_init (of89 _) rfl
theorem dX11_init_9 : decode cX11_init 9 = .ok (.invokespecial 9, 3) := dec_2 oX11_init (of183 _) 0 9 rfl rfl
theorem dX11_init_90 : decode cX11_init 90 = .ok (.iconst 1, 1) := dec_0 oX11_init (of4 _) rfl
theorem dX11_init_91 : decode cX11_init 91 = .ok (.new 53, 3) := dec_2 oX11_init (of187 _) 0 53 rfl rfl
theorem dX11_init_94 : decode cX11_init 94 = .ok (.dup, 1) := dec_0 oX11_init (of89 _) rfl
theorem dX11_init_95 : decode cX11_init 95 = .ok (.invokespecial 55, 3) := dec_2 oX11_init (of183 _) 0 55 rfl rfl
theorem dX11_init_98 : decode cX11_init 98 = .ok (.aastore, 1) := dec_0 oX11_init (of83 _) rfl
theorem dX11_init_99 : decode cX11_init 99 = .ok (.dup, 1) := dec_0 oX11_init (of89 _) rfl
theorem dX11_isStretch_0 : decode cX11_isStretch 0 = .ok (.iload_n 0, 1) := dec_0 oX11_isStretch (of26 _) rfl
theorem dX11_isStretch_1 : decode cX11_isStretch 1 = .ok (.iconst 2, 1) := dec_0 oX11_isStretch (of5 _) rfl
theorem dX11_isStretch_11 : decode cX11_isStretch 11 = .ok (.iconst 1, 1) := dec_0 oX11_isStretch (of4 _) rfl
theorem dX11_isStretch_12 : decode cX11_isStretch 12 = .ok (.goto 4, 3) := dec_s2 oX11_isStretch (of167 _) 0 4 rfl (sg16p rfl) rfl
theorem dX11_isStretch_15 : decode cX11_isStretch 15 = .ok (.iconst 0, 1) := dec_0 oX11_isStretch (of3 _) rfl
theorem dX11_isStretch_16 : decode cX11_isStretch 16 = .ok (.ireturn, 1) := dec_0 oX11_isStretch (of172 _) rfl
theorem dX11_isStretch_2 : decode cX11_isStretch 2 = .ok (.if_icmp .lt 13, 3) := dec_s2 oX11_isStretch (of161 _) 0 13 rfl (sg16p rfl) rfl
theorem dX11_isStretch_5 : decode cX11_isStretch 5 = .ok (.iload_n 0, 1) := dec_0 oX11_isStretch (of26 _) rfl
theorem dX11_isStretch_6 : decode cX11_isStretch 6 = .ok (.bipush 16, 2) := dec_s1 oX11_isStretch (of16 _) 16 rfl (sg8p rfl) rfl
theorem dX11_isStretch_8 : decode cX11_isStretch 8 = .ok (.if_icmp .gt 7, 3) := dec_s2 oX11_isStretch (of163 _) 0 7 rfl (sg16p rfl) rfl
theorem dX11_kth_0 : decode cX11_kth 0 = .ok (.iload_n 2, 1) := dec_0 oX11_kth (of28 _) rfl
theorem dX11_kth_1 : decode cX11_kth 1 = .ok (.ifCond .lt 23, 3) := dec_s2 oX11_kth (of155 _) 0 23 rfl (sg16p rfl) rfl
theorem dX11_kth_10 : decode cX11_kth 10 = .ok (.if_icmp .gt 14, 3) := dec_s2 oX11_kth (of163 _) 0 14 rfl (sg16p rfl) rfl
theorem dX11_kth_13 : decode cX11_kth 13 = .ok (.aload_n 0, 1) := dec_0 oX11_kth (of42 _) rfl
theorem dX11_kth_14 : decode cX11_kth 14 = .ok (.getfield 35, 3) := dec_2 oX11_kth (of180 _) 0 35 rfl rfl
theorem dX11_kth_17 : decode cX11_kth 17 = .ok (.iload_n 1, 1) := dec_0 oX11_kth (of27 _) rfl
theorem dX11_kth_18 : decode cX11_kth 18 = .ok (.invokevirtual 251, 3) := dec_2 oX11_kth (of182 _) 0 251 rfl rfl
theorem dX11_kth_21 : decode cX11_kth 21 = .ok (.ifCond .ne 5, 3) := dec_s2 oX11_kth (of154 _) 0 5 rfl (sg16p rfl) rfl
theorem dX11_kth_24 : decode cX11_kth 24 = .ok (.iconst (-1), 1) := dec_0 oX11_kth (of2 _) rfl
theorem dX11_kth_25 : decode cX11_kth 25 = .ok (.ireturn, 1) := dec_0 oX11_kth (of172 _) rfl
theorem dX11_kth_4 : decode cX11_kth 4 = .ok (.iload_n 3, 1) := dec_0 oX11_kth (of29 _) rfl
theorem dX11_kth_5 : decode cX11_kth 5 = .ok (.ifCond .lt 19, 3) := dec_s2 oX11_kth (of155 _) 0 19 rfl (sg16p rfl) rfl
theorem dX11_kth_8 : decode cX11_kth 8 = .ok (.iload_n 3, 1) := dec_0 oX11_kth (of29 _) rfl
theorem dX11_kth_9 : decode cX11_kth 9 = .ok (.iconst 1, 1) := dec_0 oX11_kth (of4 _) rfl
theorem dX11_lean_0 : decode cX11_lean 0 = .ok (.iload_n 3, 1) := dec_0 oX11_lean (of29 _) rfl
theorem dX11_lean_1 : decode cX11_lean 1 = .ok (.ifCond .lt 20, 3) := dec_s2 oX11_lean (of155 _) 0 20 rfl (sg16p rfl) rfl
theorem dX11_lean_10 : decode cX11_lean 10 = .ok (.getfield 65, 3) := dec_2 oX11_lean (of180 _) 0 65 rfl rfl
theorem dX11_lean_13 : decode cX11_lean 13 = .ok (.iload_n 1, 1) := dec_0 oX11_lean (of27 _) rfl
theorem dX11_lean_14 : decode cX11_lean 14 = .ok (.iload_n 2, 1) := dec_0 oX11_lean (of28 _) rfl
theorem dX11_lean_15 : decode cX11_lean 15 = .ok (.invokevirtual 212, 3) := dec_2 oX11_lean (of182 _) 0 212 rfl rfl
theorem dX11_lean_18 : decode cX11_lean 18 = .ok (.ifCond .ne 5, 3) := dec_s2 oX11_lean (of154 _) 0 5 rfl (sg16p rfl) rfl
theorem dX11_lean_21 : decode cX11_lean 21 = .ok (.iconst (-1), 1) := dec_0 oX11_lean (of2 _) rfl
theorem dX11_lean_22 : decode cX11_lean 22 = .ok (.ireturn, 1) := dec_0 oX11_lean (of172 _) rfl
theorem dX11_lean_4 : decode cX11_lean 4 = .ok (.iload_n 3, 1) := dec_0 oX11_lean (of29 _) rfl
theorem dX11_lean_5 : decode cX11_lean 5 = .ok (.iconst 1, 1) := dec_0 oX11_lean (of4 _) rfl
theorem dX11_lean_6 : decode cX11_lean 6 = .ok (.if_icmp .gt 15, 3) := dec_s2 oX11_lean (of163 _) 0 15 rfl (sg16p rfl) rfl
theorem dX11_lean_9 : decode cX11_lean 9 = .ok (.aload_n 0, 1) := dec_0 oX11_lean (of42 _) rfl
theorem dX11_level_0 : decode cX11_level 0 = .ok (.iload_n 2, 1) := dec_0 oX11_level (of28 _) rfl
theorem dX11_level_1 : decode cX11_level 1 = .ok (.invokestatic 196, 3) := dec_2 oX11_level (of184 _) 0 196 rfl rfl
theorem dX11_level_11 : decode cX11_level 11 = .ok (.iload_n 3, 1) := dec_0 oX11_level (of29 _) rfl
theorem dX11_level_12 : decode cX11_level 12 = .ok (.iload_n 2, 1) := dec_0 oX11_level (of28 _) rfl
theorem dX11_level_13 : decode cX11_level 13 = .ok (.if_icmp .ge 15, 3) := dec_s2 oX11_level (of162 _) 0 15 rfl (sg16p rfl) rfl
theorem dX11_level_16 : decode cX11_level 16 = .ok (.aload_n 0, 1) := dec_0 oX11_level (of42 _) rfl
theorem dX11_level_17 : decode cX11_level 17 = .ok (.getfield 28, 3) := dec_2 oX11_level (of180 _) 0 28 rfl rfl
theorem dX11_level_20 : decode cX11_level 20 = .ok (.iload_n 1, 1) := dec_0 oX11_level (of27 _) rfl
theorem dX11_level_21 : decode cX11_level 21 = .ok (.iload_n 2, 1) := dec_0 oX11_level (of28 _) rfl
theorem dX11_level_22 : decode cX11_level 22 = .ok (.invokevirtual 183, 3) := dec_2 oX11_level (of182 _) 0 183 rfl rfl
theorem dX11_level_25 : decode cX11_level 25 = .ok (.ifCond .ne 6, 3) := dec_s2 oX11_level (of154 _) 0 6 rfl (sg16p rfl) rfl
theorem dX11_level_28 : decode cX11_level 28 = .ok (.ldc 186, 2) := dec_1 oX11_level (of18 _) 186 rfl rfl
theorem dX11_level_30 : decode cX11_level 30 = .ok (.ireturn, 1) := dec_0 oX11_level (of172 _) rfl
theorem dX11_level_4 : decode cX11_level 4 = .ok (.ifCond .eq 24, 3) := dec_s2 oX11_level (of153 _) 0 24 rfl (sg16p rfl) rfl
theorem dX11_level_7 : decode cX11_level 7 = .ok (.iload_n 3, 1) := dec_0 oX11_level (of29 _) rfl
theorem dX11_level_8 : decode cX11_level 8 = .ok (.ifCond .lt 20, 3) := dec_s2 oX11_level (of155 _) 0 20 rfl (sg16p rfl) rfl
theorem dX11_look_0 : decode cX11_look 0 = .ok (.iload_n 3, 1) := dec_0 oX11_look (of29 _) rfl
theorem dX11_look_1 : decode cX11_look 1 = .ok (.ifCond .lt 26, 3) := dec_s2 oX11_look (of155 _) 0 26 rfl (sg16p rfl) rfl
theorem dX11_look_11 : decode cX11_look 11 = .ok (.iconst 2, 1) := dec_0 oX11_look (of5 _) rfl
theorem dX11_look_12 : decode cX11_look 12 = .ok (.if_icmp .gt 15, 3) := dec_s2 oX11_look (of163 _) 0 15 rfl (sg16p rfl) rfl
theorem dX11_look_15 : decode cX11_look 15 = .ok (.aload_n 0, 1) := dec_0 oX11_look (of42 _) rfl
theorem dX11_look_16 : decode cX11_look 16 = .ok (.getfield 65, 3) := dec_2 oX11_look (of180 _) 0 65 rfl rfl
theorem dX11_look_19 : decode cX11_look 19 = .ok (.iload_n 1, 1) := dec_0 oX11_look (of27 _) rfl
theorem dX11_look_20 : decode cX11_look 20 = .ok (.iload_n 2, 1) := dec_0 oX11_look (of28 _) rfl
theorem dX11_look_21 : decode cX11_look 21 = .ok (.invokevirtual 212, 3) := dec_2 oX11_look (of182 _) 0 212 rfl rfl
theorem dX11_look_24 : decode cX11_look 24 = .ok (.ifCond .ne 5, 3) := dec_s2 oX11_look (of154 _) 0 5 rfl (sg16p rfl) rfl
theorem dX11_look_27 : decode cX11_look 27 = .ok (.iconst (-1), 1) := dec_0 oX11_look (of2 _) rfl
theorem dX11_look_28 : decode cX11_look 28 = .ok (.ireturn, 1) := dec_0 oX11_look (of172 _) rfl
theorem dX11_look_4 : decode cX11_look 4 = .ok (.iload 4, 2) := dec_1 oX11_look (of21 _) 4 rfl rfl
theorem dX11_look_6 : decode cX11_look 6 = .ok (.ifCond .lt 21, 3) := dec_s2 oX11_look (of155 _) 0 21 rfl (sg16p rfl) rfl
theorem dX11_look_9 : decode cX11_look 9 = .ok (.iload 4, 2) := dec_1 oX11_look (of21 _) 4 rfl rfl
theorem dX11_match_0 : decode cX11_match 0 = .ok (.iload_n 2, 1) := dec_0 oX11_match (of28 _) rfl
theorem dX11_match_1 : decode cX11_match 1 = .ok (.ifCond .lt 23, 3) := dec_s2 oX11_match (of155 _) 0 23 rfl (sg16p rfl) rfl
theorem dX11_match_10 : decode cX11_match 10 = .ok (.if_icmp .gt 14, 3) := dec_s2 oX11_match (of163 _) 0 14 rfl (sg16p rfl) rfl
theorem dX11_match_13 : decode cX11_match 13 = .ok (.aload_n 0, 1) := dec_0 oX11_match (of42 _) rfl
theorem dX11_match_14 : decode cX11_match 14 = .ok (.getfield 35, 3) := dec_2 oX11_match (of180 _) 0 35 rfl rfl
theorem dX11_match_17 : decode cX11_match 17 = .ok (.iload_n 1, 1) := dec_0 oX11_match (of27 _) rfl
theorem dX11_match_18 : decode cX11_match 18 = .ok (.invokevirtual 251, 3) := dec_2 oX11_match (of182 _) 0 251 rfl rfl
theorem dX11_match_21 : decode cX11_match 21 = .ok (.ifCond .ne 5, 3) := dec_s2 oX11_match (of154 _) 0 5 rfl (sg16p rfl) rfl
theorem dX11_match_24 : decode cX11_match 24 = .ok (.iconst (-1), 1) := dec_0 oX11_match (of2 _) rfl
theorem dX11_match_25 : decode cX11_match 25 = .ok (.ireturn, 1) := dec_0 oX11_match (of172 _) rfl
theorem dX11_match_4 : decode cX11_match 4 = .ok (.iload_n 3, 1) := dec_0 oX11_match (of29 _) rfl
theorem dX11_match_5 : decode cX11_match 5 = .ok (.ifCond .lt 19, 3) := dec_s2 oX11_match (of155 _) 0 19 rfl (sg16p rfl) rfl
theorem dX11_match_8 : decode cX11_match 8 = .ok (.iload_n 3, 1) := dec_0 oX11_match (of29 _) rfl
theorem dX11_match_9 : decode cX11_match 9 = .ok (.iconst 1, 1) := dec_0 oX11_match (of4 _) rfl
theorem dX11_mend_0 : decode cX11_mend 0 = .ok (.iload_n 1, 1) := dec_0 oX11_mend (of27 _) rfl
theorem dX11_mend_1 : decode cX11_mend 1 = .ok (.iconst 1, 1) := dec_0 oX11_mend (of4 _) rfl
theorem dX11_mend_10 : decode cX11_mend 10 = .ok (.getfield 138, 3) := dec_2 oX11_mend (of180 _) 0 138 rfl rfl
theorem dX11_mend_13 : decode cX11_mend 13 = .ok (.iconst 1, 1) := dec_0 oX11_mend (of4 _) rfl
theorem dX11_mend_14 : decode cX11_mend 14 = .ok (.isub, 1) := dec_0 oX11_mend (of100 _) rfl
theorem dX11_mend_15 : decode cX11_mend 15 = .ok (.if_icmp .ge 14, 3) := dec_s2 oX11_mend (of162 _) 0 14 rfl (sg16p rfl) rfl
theorem dX11_mend_2 : decode cX11_mend 2 = .ok (.if_icmp .lt 27, 3) := dec_s2 oX11_mend (of161 _) 0 27 rfl (sg16p rfl) rfl
theorem dX11_mend_29 : decode cX11_mend 29 = .ok (.sipush (-1000), 3) := dec_s2 oX11_mend (of17 _) 252 24 rfl (sg16n (k := 1000) rfl) rfl
theorem dX11_mend_32 : decode cX11_mend 32 = .ok (.ireturn, 1) := dec_0 oX11_mend (of172 _) rfl
theorem dX11_mend_5 : decode cX11_mend 5 = .ok (.iload_n 1, 1) := dec_0 oX11_mend (of27 _) rfl
theorem dX11_mend_6 : decode cX11_mend 6 = .ok (.aload_n 0, 1) := dec_0 oX11_mend (of42 _) rfl
theorem dX11_mend_7 : decode cX11_mend 7 = .ok (.getfield 28, 3) := dec_2 oX11_mend (of180 _) 0 28 rfl rfl
theorem dX11_near_0 : decode cX11_near 0 = .ok (.iload_n 2, 1) := dec_0 oX11_near (of28 _) rfl
theorem dX11_near_1 : decode cX11_near 1 = .ok (.invokestatic 196, 3) := dec_2 oX11_near (of184 _) 0 196 rfl rfl
theorem dX11_near_11 : decode cX11_near 11 = .ok (.iload_n 3, 1) := dec_0 oX11_near (of29 _) rfl
theorem dX11_near_12 : decode cX11_near 12 = .ok (.iconst 1, 1) := dec_0 oX11_near (of4 _) rfl
theorem dX11_near_13 : decode cX11_near 13 = .ok (.if_icmp .gt 15, 3) := dec_s2 oX11_near (of163 _) 0 15 rfl (sg16p rfl) rfl
theorem dX11_near_16 : decode cX11_near 16 = .ok (.aload_n 0, 1) := dec_0 oX11_near (of42 _) rfl
theorem dX11_near_17 : decode cX11_near 17 = .ok (.getfield 28, 3) := dec_2 oX11_near (of180 _) 0 28 rfl rfl
theorem dX11_near_20 : decode cX11_near 20 = .ok (.iload_n 1, 1) := dec_0 oX11_near (of27 _) rfl
theorem dX11_near_21 : decode cX11_near 21 = .ok (.iload_n 2, 1) := dec_0 oX11_near (of28 _) rfl
theorem dX11_near_22 : decode cX11_near 22 = .ok (.invokevirtual 183, 3) := dec_2 oX11_near (of182 _) 0 183 rfl rfl
theorem dX11_near_25 : decode cX11_near 25 = .ok (.ifCond .ne 5, 3) := dec_s2 oX11_near (of154 _) 0 5 rfl (sg16p rfl) rfl
theorem dX11_near_28 : decode cX11_near 28 = .ok (.iconst (-1), 1) := dec_0 oX11_near (of2 _) rfl
theorem dX11_near_29 : decode cX11_near 29 = .ok (.ireturn, 1) := dec_0 oX11_near (of172 _) rfl
theorem dX11_near_4 : decode cX11_near 4 = .ok (.ifCond .eq 24, 3) := dec_s2 oX11_near (of153 _) 0 24 rfl (sg16p rfl) rfl
theorem dX11_near_7 : decode cX11_near 7 = .ok (.iload_n 3, 1) := dec_0 oX11_near (of29 _) rfl
theorem dX11_near_8 : decode cX11_near 8 = .ok (.ifCond .lt 20, 3) := dec_s2 oX11_near (of155 _) 0 20 rfl (sg16p rfl) rfl
theorem dX11_needs_0 : decode cX11_needs 0 = .ok (.aload_n 0, 1) := dec_0 oX11_needs (of42 _) rfl
theorem dX11_needs_1 : decode cX11_needs 1 = .ok (.getfield 65, 3) := dec_2 oX11_needs (of180 _) 0 65 rfl rfl
theorem dX11_needs_24 : decode cX11_needs 24 = .ok (.iconst (-1), 1) := dec_0 oX11_needs (of2 _) rfl
theorem dX11_needs_25 : decode cX11_needs 25 = .ok (.ireturn, 1) := dec_0 oX11_needs (of172 _) rfl
theorem dX11_needs_4 : decode cX11_needs 4 = .ok (.iload_n 1, 1) := dec_0 oX11_needs (of27 _) rfl
theorem dX11_needs_5 : decode cX11_needs 5 = .ok (.iload_n 2, 1) := dec_0 oX11_needs (of28 _) rfl
theorem dX11_needs_6 : decode cX11_needs 6 = .ok (.invokevirtual 299, 3) := dec_2 oX11_needs (of182 _) 1 43 rfl rfl
theorem dX11_needs_9 : decode cX11_needs 9 = .ok (.ifCond .eq 15, 3) := dec_s2 oX11_needs (of153 _) 0 15 rfl (sg16p rfl) rfl
theorem dX11_odd_0 : decode cX11_odd 0 = .ok (.iload_n 1, 1) := dec_0 oX11_odd (of27 _) rfl
theorem dX11_odd_1 : decode cX11_odd 1 = .ok (.invokestatic 196, 3) := dec_2 oX11_odd (of184 _) 0 196 rfl rfl
theorem dX11_odd_11 : decode cX11_odd 11 = .ok (.iload_n 2, 1) := dec_0 oX11_odd (of28 _) rfl
theorem dX11_odd_12 : decode cX11_odd 12 = .ok (.iconst 1, 1) := dec_0 oX11_odd (of4 _) rfl
theorem dX11_odd_13 : decode cX11_odd 13 = .ok (.if_icmp .le 5, 3) := dec_s2 oX11_odd (of164 _) 0 5 rfl (sg16p rfl) rfl
theorem dX11_odd_16 : decode cX11_odd 16 = .ok (.iconst (-1), 1) := dec_0 oX11_odd (of2 _) rfl
theorem dX11_odd_17 : decode cX11_odd 17 = .ok (.ireturn, 1) := dec_0 oX11_odd (of172 _) rfl
theorem dX11_odd_18 : decode cX11_odd 18 = .ok (.aload_n 0, 1) := dec_0 oX11_odd (of42 _) rfl
theorem dX11_odd_19 : decode cX11_odd 19 = .ok (.getfield 81, 3) := dec_2 oX11_odd (of180 _) 0 81 rfl rfl
theorem dX11_odd_22 : decode cX11_odd 22 = .ok (.iload_n 1, 1) := dec_0 oX11_odd (of27 _) rfl
theorem dX11_odd_23 : decode cX11_odd 23 = .ok (.invokevirtual 344, 3) := dec_2 oX11_odd (of182 _) 1 88 rfl rfl
theorem dX11_odd_26 : decode cX11_odd 26 = .ok (.iload_n 2, 1) := dec_0 oX11_odd (of28 _) rfl
theorem dX11_odd_27 : decode cX11_odd 27 = .ok (.ifCond .ne 13, 3) := dec_s2 oX11_odd (of154 _) 0 13 rfl (sg16p rfl) rfl
theorem dX11_odd_30 : decode cX11_odd 30 = .ok (.aload_n 0, 1) := dec_0 oX11_odd (of42 _) rfl
theorem dX11_odd_31 : decode cX11_odd 31 = .ok (.getfield 81, 3) := dec_2 oX11_odd (of180 _) 0 81 rfl rfl
theorem dX11_odd_34 : decode cX11_odd 34 = .ok (.getfield 347, 3) := dec_2 oX11_odd (of180 _) 1 91 rfl rfl
theorem dX11_odd_37 : decode cX11_odd 37 = .ok (.goto 10, 3) := dec_s2 oX11_odd (of167 _) 0 10 rfl (sg16p rfl) rfl
theorem dX11_odd_4 : decode cX11_odd 4 = .ok (.ifCond .eq 12, 3) := dec_s2 oX11_odd (of153 _) 0 12 rfl (sg16p rfl) rfl
theorem dX11_odd_40 : decode cX11_odd 40 = .ok (.aload_n 0, 1) := dec_0 oX11_odd (of42 _) rfl
theorem dX11_odd_41 : decode cX11_odd 41 = .ok (.getfield 81, 3) := dec_2 oX11_odd (of180 _) 0 81 rfl rfl
theorem dX11_odd_44 : decode cX11_odd 44 = .ok (.getfield 350, 3) := dec_2 oX11_odd (of180 _) 1 94 rfl rfl
theorem dX11_odd_47 : decode cX11_odd 47 = .ok (.ireturn, 1) := dec_0 oX11_odd (of172 _) rfl
theorem dX11_odd_7 : decode cX11_odd 7 = .ok (.iload_n 2, 1) := dec_0 oX11_odd (of28 _) rfl
theorem dX11_odd_8 : decode cX11_odd 8 = .ok (.ifCond .lt 8, 3) := dec_s2 oX11_odd (of155 _) 0 8 rfl (sg16p rfl) rfl
theorem dX11_pair_0 : decode cX11_pair 0 = .ok (.iload_n 1, 1) := dec_0 oX11_pair (of27 _) rfl
theorem dX11_pair_1 : decode cX11_pair 1 = .ok (.invokestatic 196, 3) := dec_2 oX11_pair (of184 _) 0 196 rfl rfl
theorem dX11_pair_11 : decode cX11_pair 11 = .ok (.iload_n 2, 1) := dec_0 oX11_pair (of28 _) rfl
theorem dX11_pair_12 : decode cX11_pair 12 = .ok (.iconst 2, 1) := dec_0 oX11_pair (of5 _) rfl
theorem dX11_pair_13 : decode cX11_pair 13 = .ok (.if_icmp .le 5, 3) := dec_s2 oX11_pair (of164 _) 0 5 rfl (sg16p rfl) rfl
theorem dX11_pair_16 : decode cX11_pair 16 = .ok (.iconst (-1), 1) := dec_0 oX11_pair (of2 _) rfl
theorem dX11_pair_17 : decode cX11_pair 17 = .ok (.ireturn, 1) := dec_0 oX11_pair (of172 _) rfl
theorem dX11_pair_18 : decode cX11_pair 18 = .ok (.aload_n 0, 1) := dec_0 oX11_pair (of42 _) rfl
theorem dX11_pair_19 : decode cX11_pair 19 = .ok (.getfield 81, 3) := dec_2 oX11_pair (of180 _) 0 81 rfl rfl
theorem dX11_pair_22 : decode cX11_pair 22 = .ok (.iload_n 1, 1) := dec_0 oX11_pair (of27 _) rfl
theorem dX11_pair_23 : decode cX11_pair 23 = .ok (.invokevirtual 332, 3) := dec_2 oX11_pair (of182 _) 1 76 rfl rfl
theorem dX11_pair_26 : decode cX11_pair 26 = .ok (.iload_n 2, 1) := dec_0 oX11_pair (of28 _) rfl
theorem dX11_pair_27 : decode cX11_pair 27 = .ok (.iconst 2, 1) := dec_0 oX11_pair (of5 _) rfl
theorem dX11_pair_28 : decode cX11_pair 28 = .ok (.if_icmp .ne 11, 3) := dec_s2 oX11_pair (of160 _) 0 11 rfl (sg16p rfl) rfl
theorem dX11_pair_31 : decode cX11_pair 31 = .ok (.aload_n 0, 1) := dec_0 oX11_pair (of42 _) rfl
theorem dX11_pair_32 : decode cX11_pair 32 = .ok (.getfield 81, 3) := dec_2 oX11_pair (of180 _) 0 81 rfl rfl
theorem dX11_pair_35 : decode cX11_pair 35 = .ok (.getfield 335, 3) := dec_2 oX11_pair (of180 _) 1 79 rfl rfl
theorem dX11_pair_38 : decode cX11_pair 38 = .ok (.ireturn, 1) := dec_0 oX11_pair (of172 _) rfl
theorem dX11_pair_39 : decode cX11_pair 39 = .ok (.iload_n 2, 1) := dec_0 oX11_pair (of28 _) rfl
theorem dX11_pair_4 : decode cX11_pair 4 = .ok (.ifCond .eq 12, 3) := dec_s2 oX11_pair (of153 _) 0 12 rfl (sg16p rfl) rfl
theorem dX11_pair_40 : decode cX11_pair 40 = .ok (.ifCond .ne 13, 3) := dec_s2 oX11_pair (of154 _) 0 13 rfl (sg16p rfl) rfl
theorem dX11_pair_43 : decode cX11_pair 43 = .ok (.aload_n 0, 1) := dec_0 oX11_pair (of42 _) rfl
theorem dX11_pair_44 : decode cX11_pair 44 = .ok (.getfield 81, 3) := dec_2 oX11_pair (of180 _) 0 81 rfl rfl
theorem dX11_pair_47 : decode cX11_pair 47 = .ok (.getfield 338, 3) := dec_2 oX11_pair (of180 _) 1 82 rfl rfl
theorem dX11_pair_50 : decode cX11_pair 50 = .ok (.goto 10, 3) := dec_s2 oX11_pair (of167 _) 0 10 rfl (sg16p rfl) rfl
theorem dX11_pair_53 : decode cX11_pair 53 = .ok (.aload_n 0, 1) := dec_0 oX11_pair (of42 _) rfl
theorem dX11_pair_54 : decode cX11_pair 54 = .ok (.getfield 81, 3) := dec_2 oX11_pair (of180 _) 0 81 rfl rfl
theorem dX11_pair_57 : decode cX11_pair 57 = .ok (.getfield 341, 3) := dec_2 oX11_pair (of180 _) 1 85 rfl rfl
theorem dX11_pair_60 : decode cX11_pair 60 = .ok (.ireturn, 1) := dec_0 oX11_pair (of172 _) rfl
theorem dX11_pair_7 : decode cX11_pair 7 = .ok (.iload_n 2, 1) := dec_0 oX11_pair (of28 _) rfl
theorem dX11_pair_8 : decode cX11_pair 8 = .ok (.ifCond .lt 8, 3) := dec_s2 oX11_pair (of155 _) 0 8 rfl (sg16p rfl) rfl
theorem dX11_place_0 : decode cX11_place 0 = .ok (.aload_n 0, 1) := dec_0 oX11_place (of42 _) rfl
theorem dX11_place_1 : decode cX11_place 1 = .ok (.getfield 21, 3) := dec_2 oX11_place (of180 _) 0 21 rfl rfl
theorem dX11_place_4 : decode cX11_place 4 = .ok (.getfield 114, 3) := dec_2 oX11_place (of180 _) 0 114 rfl rfl
theorem dX11_place_7 : decode cX11_place 7 = .ok (.ireturn, 1) := dec_0 oX11_place (of172 _) rfl
theorem dX11_push_0 : decode cX11_push 0 = .ok (.iload_n 1, 1) := dec_0 oX11_push (of27 _) rfl
theorem dX11_push_1 : decode cX11_push 1 = .ok (.sipush (-999), 3) := dec_s2 oX11_push (of17 _) 252 25 rfl (sg16n (k := 999) rfl) rfl
theorem dX11_push_11 : decode cX11_push 11 = .ok (.if_icmp .le 5, 3) := dec_s2 oX11_push (of164 _) 0 5 rfl (sg16p rfl) rfl
theorem dX11_push_14 : decode cX11_push 14 = .ok (.iconst (-1), 1) := dec_0 oX11_push (of2 _) rfl
theorem dX11_push_15 : decode cX11_push 15 = .ok (.ireturn, 1) := dec_0 oX11_push (of172 _) rfl
theorem dX11_push_16 : decode cX11_push 16 = .ok (.aload_n 0, 1) := dec_0 oX11_push (of42 _) rfl
theorem dX11_push_17 : decode cX11_push 17 = .ok (.iload_n 1, 1) := dec_0 oX11_push (of27 _) rfl
theorem dX11_push_18 : decode cX11_push 18 = .ok (.invokevirtual 127, 3) := dec_2 oX11_push (of182 _) 0 127 rfl rfl
theorem dX11_push_21 : decode cX11_push 21 = .ok (.ireturn, 1) := dec_0 oX11_push (of172 _) rfl
theorem dX11_push_4 : decode cX11_push 4 = .ok (.if_icmp .lt 10, 3) := dec_s2 oX11_push (of161 _) 0 10 rfl (sg16p rfl) rfl
theorem dX11_push_7 : decode cX11_push 7 = .ok (.iload_n 1, 1) := dec_0 oX11_push (of27 _) rfl
theorem dX11_push_8 : decode cX11_push 8 = .ok (.sipush 999, 3) := dec_s2 oX11_push (of17 _) 3 231 rfl (sg16p rfl) rfl
theorem dX11_query_0 : decode cX11_query 0 = .ok (.aload_n 0, 1) := dec_0 oX11_query (of42 _) rfl
theorem dX11_query_1 : decode cX11_query 1 = .ok (.getfield 35, 3) := dec_2 oX11_query (of180 _) 0 35 rfl rfl
theorem dX11_query_4 : decode cX11_query 4 = .ok (.iload_n 1, 1) := dec_0 oX11_query (of27 _) rfl
theorem dX11_query_5 : decode cX11_query 5 = .ok (.iload_n 2, 1) := dec_0 oX11_query (of28 _) rfl
theorem dX11_query_6 : decode cX11_query 6 = .ok (.invokevirtual 124, 3) := dec_2 oX11_query (of182 _) 0 124 rfl rfl
theorem dX11_query_9 : decode cX11_query 9 = .ok (.ireturn, 1) := dec_0 oX11_query (of172 _) rfl
theorem dX11_rank_0 : decode cX11_rank 0 = .ok (.aload_n 0, 1) := dec_0 oX11_rank (of42 _) rfl
theorem dX11_rank_1 : decode cX11_rank 1 = .ok (.getfield 65, 3) := dec_2 oX11_rank (of180 _) 0 65 rfl rfl
theorem dX11_rank_12 : decode cX11_rank 12 = .ok (.iconst (-1), 1) := dec_0 oX11_rank (of2 _) rfl
theorem dX11_rank_13 : decode cX11_rank 13 = .ok (.ireturn, 1) := dec_0 oX11_rank (of172 _) rfl
theorem dX11_rank_4 : decode cX11_rank 4 = .ok (.iload_n 1, 1) := dec_0 oX11_rank (of27 _) rfl
theorem dX11_rank_5 : decode cX11_rank 5 = .ok (.iload_n 2, 1) := dec_0 oX11_rank (of28 _) rfl
theorem dX11_rank_6 : decode cX11_rank 6 = .ok (.invokevirtual 299, 3) := dec_2 oX11_rank (of182 _) 1 43 rfl rfl
theorem dX11_rank_9 : decode cX11_rank 9 = .ok (.ifCond .ne 5, 3) := dec_s2 oX11_rank (of154 _) 0 5 rfl (sg16p rfl) rfl
theorem dX11_read_0 : decode cX11_read 0 = .ok (.aload_n 0, 1) := dec_0 oX11_read (of42 _) rfl
theorem dX11_read_1 : decode cX11_read 1 = .ok (.getfield 21, 3) := dec_2 oX11_read (of180 _) 0 21 rfl rfl
theorem dX11_read_12 : decode cX11_read 12 = .ok (.iconst 0, 1) := dec_0 oX11_read (of3 _) rfl
theorem dX11_read_13 : decode cX11_read 13 = .ok (.putfield 85, 3) := dec_2 oX11_read (of181 _) 0 85 rfl rfl
theorem dX11_read_16 : decode cX11_read 16 = .ok (.iload_n 1, 1) := dec_0 oX11_read (of27 _) rfl
theorem dX11_read_17 : decode cX11_read 17 = .ok (.ifCond .ne 55, 3) := dec_s2 oX11_read (of154 _) 0 55 rfl (sg16p rfl) rfl
theorem dX11_read_20 : decode cX11_read 20 = .ok (.aload_n 0, 1) := dec_0 oX11_read (of42 _) rfl
theorem dX11_read_21 : decode cX11_read 21 = .ok (.getfield 35, 3) := dec_2 oX11_read (of180 _) 0 35 rfl rfl
theorem dX11_read_24 : decode cX11_read 24 = .ok (.aload_n 0, 1) := dec_0 oX11_read (of42 _) rfl
theorem dX11_read_25 : decode cX11_read 25 = .ok (.getfield 21, 3) := dec_2 oX11_read (of180 _) 0 21 rfl rfl
theorem dX11_read_28 : decode cX11_read 28 = .ok (.getfield 97, 3) := dec_2 oX11_read (of180 _) 0 97 rfl rfl
theorem dX11_read_31 : decode cX11_read 31 = .ok (.invokevirtual 98, 3) := dec_2 oX11_read (of182 _) 0 98 rfl rfl
theorem dX11_read_34 : decode cX11_read 34 = .ok (.aload_n 0, 1) := dec_0 oX11_read (of42 _) rfl
theorem dX11_read_35 : decode cX11_read 35 = .ok (.aload_n 0, 1) := dec_0 oX11_read (of42 _) rfl
theorem dX11_read_36 : decode cX11_read 36 = .ok (.getfield 21, 3) := dec_2 oX11_read (of180 _) 0 21 rfl rfl
theorem dX11_read_39 : decode cX11_read 39 = .ok (.getfield 102, 3) := dec_2 oX11_read (of180 _) 0 102 rfl rfl
theorem dX11_read_4 : decode cX11_read 4 = .ok (.invokevirtual 93, 3) := dec_2 oX11_read (of182 _) 0 93 rfl rfl
theorem dX11_read_42 : decode cX11_read 42 = .ok (.invokevirtual 106, 3) := dec_2 oX11_read (of182 _) 0 106 rfl rfl
theorem dX11_read_45 : decode cX11_read 45 = .ok (.iconst 0, 1) := dec_0 oX11_read (of3 _) rfl
theorem dX11_read_46 : decode cX11_read 46 = .ok (.istore_n 2, 1) := dec_0 oX11_read (of61 _) rfl
theorem dX11_read_47 : decode cX11_read 47 = .ok (.iload_n 2, 1) := dec_0 oX11_read (of28 _) rfl
theorem dX11_read_48 : decode cX11_read 48 = .ok (.aload_n 0, 1) := dec_0 oX11_read (of42 _) rfl
theorem dX11_read_49 : decode cX11_read 49 = .ok (.getfield 56, 3) := dec_2 oX11_read (of180 _) 0 56 rfl rfl
theorem dX11_read_52 : decode cX11_read 52 = .ok (.arraylength, 1) := dec_0 oX11_read (of190 _) rfl
theorem dX11_read_53 : decode cX11_read 53 = .ok (.if_icmp .ge 19, 3) := dec_s2 oX11_read (of162 _) 0 19 rfl (sg16p rfl) rfl
theorem dX11_read_56 : decode cX11_read 56 = .ok (.aload_n 0, 1) := dec_0 oX11_read (of42 _) rfl
theorem dX11_read_57 : decode cX11_read 57 = .ok (.getfield 56, 3) := dec_2 oX11_read (of180 _) 0 56 rfl rfl
theorem dX11_read_60 : decode cX11_read 60 = .ok (.iload_n 2, 1) := dec_0 oX11_read (of28 _) rfl
theorem dX11_read_61 : decode cX11_read 61 = .ok (.aaload, 1) := dec_0 oX11_read (of50 _) rfl
theorem dX11_read_62 : decode cX11_read 62 = .ok (.iconst 0, 1) := dec_0 oX11_read (of3 _) rfl
theorem dX11_read_63 : decode cX11_read 63 = .ok (.putfield 110, 3) := dec_2 oX11_read (of181 _) 0 110 rfl rfl
theorem dX11_read_66 : decode cX11_read 66 = .ok (.iinc 2 1, 3) := dec_ii oX11_read (of132 _) 2 1 rfl (sg8p rfl) rfl
theorem dX11_read_69 : decode cX11_read 69 = .ok (.goto (-22), 3) := dec_s2 oX11_read (of167 _) 255 234 rfl (sg16n (k := 22) rfl) rfl
theorem dX11_read_7 : decode cX11_read 7 = .ok (.istore_n 1, 1) := dec_0 oX11_read (of60 _) rfl
theorem dX11_read_72 : decode cX11_read 72 = .ok (.iload_n 1, 1) := dec_0 oX11_read (of27 _) rfl
theorem dX11_read_73 : decode cX11_read 73 = .ok (.ireturn, 1) := dec_0 oX11_read (of172 _) rfl
theorem dX11_read_8 : decode cX11_read 8 = .ok (.aload_n 0, 1) := dec_0 oX11_read (of42 _) rfl
theorem dX11_read_9 : decode cX11_read 9 = .ok (.getfield 10, 3) := dec_2 oX11_read (of180 _) 0 10 rfl rfl
theorem dX11_restore_0 : decode cX11_restore 0 = .ok (.iload_n 1, 1) := dec_0 oX11_restore (of27 _) rfl
theorem dX11_restore_1 : decode cX11_restore 1 = .ok (.ifCond .lt 24, 3) := dec_s2 oX11_restore (of155 _) 0 24 rfl (sg16p rfl) rfl
theorem dX11_restore_10 : decode cX11_restore 10 = .ok (.if_icmp .ge 15, 3) := dec_s2 oX11_restore (of162 _) 0 15 rfl (sg16p rfl) rfl
theorem dX11_restore_13 : decode cX11_restore 13 = .ok (.aload_n 0, 1) := dec_0 oX11_restore (of42 _) rfl
theorem dX11_restore_14 : decode cX11_restore 14 = .ok (.getfield 56, 3) := dec_2 oX11_restore (of180 _) 0 56 rfl rfl
theorem dX11_restore_17 : decode cX11_restore 17 = .ok (.iload_n 1, 1) := dec_0 oX11_restore (of27 _) rfl
theorem dX11_restore_18 : decode cX11_restore 18 = .ok (.aaload, 1) := dec_0 oX11_restore (of50 _) rfl
theorem dX11_restore_19 : decode cX11_restore 19 = .ok (.getfield 110, 3) := dec_2 oX11_restore (of180 _) 0 110 rfl rfl
theorem dX11_restore_22 : decode cX11_restore 22 = .ok (.ifCond .ne 5, 3) := dec_s2 oX11_restore (of154 _) 0 5 rfl (sg16p rfl) rfl
theorem dX11_restore_25 : decode cX11_restore 25 = .ok (.iconst 0, 1) := dec_0 oX11_restore (of3 _) rfl
theorem dX11_restore_26 : decode cX11_restore 26 = .ok (.ireturn, 1) := dec_0 oX11_restore (of172 _) rfl
theorem dX11_restore_4 : decode cX11_restore 4 = .ok (.iload_n 1, 1) := dec_0 oX11_restore (of27 _) rfl
theorem dX11_restore_5 : decode cX11_restore 5 = .ok (.aload_n 0, 1) := dec_0 oX11_restore (of42 _) rfl
theorem dX11_restore_6 : decode cX11_restore 6 = .ok (.getfield 56, 3) := dec_2 oX11_restore (of180 _) 0 56 rfl rfl
theorem dX11_restore_9 : decode cX11_restore 9 = .ok (.arraylength, 1) := dec_0 oX11_restore (of190 _) rfl
theorem dX11_search_0 : decode cX11_search 0 = .ok (.iload_n 2, 1) := dec_0 oX11_search (of28 _) rfl
theorem dX11_search_1 : decode cX11_search 1 = .ok (.ifCond .lt 20, 3) := dec_s2 oX11_search (of155 _) 0 20 rfl (sg16p rfl) rfl
theorem dX11_search_10 : decode cX11_search 10 = .ok (.aload_n 0, 1) := dec_0 oX11_search (of42 _) rfl
theorem dX11_search_11 : decode cX11_search 11 = .ok (.getfield 35, 3) := dec_2 oX11_search (of180 _) 0 35 rfl rfl
theorem dX11_search_14 : decode cX11_search 14 = .ok (.iload_n 1, 1) := dec_0 oX11_search (of27 _) rfl
theorem dX11_search_15 : decode cX11_search 15 = .ok (.invokevirtual 251, 3) := dec_2 oX11_search (of182 _) 0 251 rfl rfl
theorem dX11_search_18 : decode cX11_search 18 = .ok (.ifCond .ne 5, 3) := dec_s2 oX11_search (of154 _) 0 5 rfl (sg16p rfl) rfl
theorem dX11_search_21 : decode cX11_search 21 = .ok (.iconst (-1), 1) := dec_0 oX11_search (of2 _) rfl
theorem dX11_search_22 : decode cX11_search 22 = .ok (.ireturn, 1) := dec_0 oX11_search (of172 _) rfl
theorem dX11_search_4 : decode cX11_search 4 = .ok (.iload_n 2, 1) := dec_0 oX11_search (of28 _) rfl
theorem dX11_search_5 : decode cX11_search 5 = .ok (.bipush 9, 2) := dec_s1 oX11_search (of16 _) 9 rfl (sg8p rfl) rfl
theorem dX11_search_7 : decode cX11_search 7 = .ok (.if_icmp .ge 14, 3) := dec_s2 oX11_search (of162 _) 0 14 rfl (sg16p rfl) rfl
theorem dX11_set_0 : decode cX11_set 0 = .ok (.aload_n 0, 1) := dec_0 oX11_set (of42 _) rfl
theorem dX11_set_1 : decode cX11_set 1 = .ok (.getfield 42, 3) := dec_2 oX11_set (of180 _) 0 42 rfl rfl
theorem dX11_set_10 : decode cX11_set 10 = .ok (.iload_n 2, 1) := dec_0 oX11_set (of28 _) rfl
theorem dX11_set_11 : decode cX11_set 11 = .ok (.invokestatic 157, 3) := dec_2 oX11_set (of184 _) 0 157 rfl rfl
theorem dX11_set_14 : decode cX11_set 14 = .ok (.ifCond .eq 8, 3) := dec_s2 oX11_set (of153 _) 0 8 rfl (sg16p rfl) rfl
theorem dX11_set_17 : decode cX11_set 17 = .ok (.iload_n 3, 1) := dec_0 oX11_set (of29 _) rfl
theorem dX11_set_18 : decode cX11_set 18 = .ok (.iload_n 2, 1) := dec_0 oX11_set (of28 _) rfl
theorem dX11_set_19 : decode cX11_set 19 = .ok (.if_icmp .ne 5, 3) := dec_s2 oX11_set (of160 _) 0 5 rfl (sg16p rfl) rfl
theorem dX11_set_22 : decode cX11_set 22 = .ok (.iconst 0, 1) := dec_0 oX11_set (of3 _) rfl
theorem dX11_set_23 : decode cX11_set 23 = .ok (.ireturn, 1) := dec_0 oX11_set (of172 _) rfl
theorem dX11_set_24 : decode cX11_set 24 = .ok (.aload_n 0, 1) := dec_0 oX11_set (of42 _) rfl
theorem dX11_set_25 : decode cX11_set 25 = .ok (.getfield 42, 3) := dec_2 oX11_set (of180 _) 0 42 rfl rfl
theorem dX11_set_28 : decode cX11_set 28 = .ok (.iload_n 1, 1) := dec_0 oX11_set (of27 _) rfl
theorem dX11_set_29 : decode cX11_set 29 = .ok (.iload_n 2, 1) := dec_0 oX11_set (of28 _) rfl
theorem dX11_set_30 : decode cX11_set 30 = .ok (.invokevirtual 161, 3) := dec_2 oX11_set (of182 _) 0 161 rfl rfl
theorem dX11_set_33 : decode cX11_set 33 = .ok (.aload_n 0, 1) := dec_0 oX11_set (of42 _) rfl
theorem dX11_set_34 : decode cX11_set 34 = .ok (.getfield 49, 3) := dec_2 oX11_set (of180 _) 0 49 rfl rfl
theorem dX11_set_37 : decode cX11_set 37 = .ok (.iconst 3, 1) := dec_0 oX11_set (of6 _) rfl
theorem dX11_set_38 : decode cX11_set 38 = .ok (.iload_n 1, 1) := dec_0 oX11_set (of27 _) rfl
theorem dX11_set_39 : decode cX11_set 39 = .ok (.iload_n 3, 1) := dec_0 oX11_set (of29 _) rfl
theorem dX11_set_4 : decode cX11_set 4 = .ok (.iload_n 1, 1) := dec_0 oX11_set (of27 _) rfl
theorem dX11_set_40 : decode cX11_set 40 = .ok (.invokevirtual 134, 3) := dec_2 oX11_set (of182 _) 0 134 rfl rfl
theorem dX11_set_43 : decode cX11_set 43 = .ok (.iconst 1, 1) := dec_0 oX11_set (of4 _) rfl
theorem dX11_set_44 : decode cX11_set 44 = .ok (.ireturn, 1) := dec_0 oX11_set (of172 _) rfl
theorem dX11_set_5 : decode cX11_set 5 = .ok (.invokevirtual 154, 3) := dec_2 oX11_set (of182 _) 0 154 rfl rfl
theorem dX11_set_8 : decode cX11_set 8 = .ok (.istore_n 3, 1) := dec_0 oX11_set (of62 _) rfl
theorem dX11_set_9 : decode cX11_set 9 = .ok (.iload_n 1, 1) := dec_0 oX11_set (of27 _) rfl
theorem dX11_slack_0 : decode cX11_slack 0 = .ok (.aload_n 0, 1) := dec_0 oX11_slack (of42 _) rfl
theorem dX11_slack_1 : decode cX11_slack 1 = .ok (.getfield 35, 3) := dec_2 oX11_slack (of180 _) 0 35 rfl rfl
theorem dX11_slack_22 : decode cX11_slack 22 = .ok (.iconst (-1), 1) := dec_0 oX11_slack (of2 _) rfl
theorem dX11_slack_23 : decode cX11_slack 23 = .ok (.ireturn, 1) := dec_0 oX11_slack (of172 _) rfl
theorem dX11_slack_4 : decode cX11_slack 4 = .ok (.iload_n 1, 1) := dec_0 oX11_slack (of27 _) rfl
theorem dX11_slack_5 : decode cX11_slack 5 = .ok (.invokevirtual 251, 3) := dec_2 oX11_slack (of182 _) 0 251 rfl rfl
theorem dX11_slack_8 : decode cX11_slack 8 = .ok (.ifCond .eq 14, 3) := dec_s2 oX11_slack (of153 _) 0 14 rfl (sg16p rfl) rfl
theorem dX11_slotsHeld_0 : decode cX11_slotsHeld 0 = .ok (.iconst 0, 1) := dec_0 oX11_slotsHeld (of3 _) rfl
theorem dX11_slotsHeld_1 : decode cX11_slotsHeld 1 = .ok (.istore_n 1, 1) := dec_0 oX11_slotsHeld (of60 _) rfl
theorem dX11_slotsHeld_10 : decode cX11_slotsHeld 10 = .ok (.if_icmp .ge 24, 3) := dec_s2 oX11_slotsHeld (of162 _) 0 24 rfl (sg16p rfl) rfl
theorem dX11_slotsHeld_13 : decode cX11_slotsHeld 13 = .ok (.aload_n 0, 1) := dec_0 oX11_slotsHeld (of42 _) rfl
theorem dX11_slotsHeld_14 : decode cX11_slotsHeld 14 = .ok (.getfield 56, 3) := dec_2 oX11_slotsHeld (of180 _) 0 56 rfl rfl
theorem dX11_slotsHeld_17 : decode cX11_slotsHeld 17 = .ok (.iload_n 2, 1) := dec_0 oX11_slotsHeld (of28 _) rfl
theorem dX11_slotsHeld_18 : decode cX11_slotsHeld 18 = .ok (.aaload, 1) := dec_0 oX11_slotsHeld (of50 _) rfl
theorem dX11_slotsHeld_19 : decode cX11_slotsHeld 19 = .ok (.getfield 110, 3) := dec_2 oX11_slotsHeld (of180 _) 0 110 rfl rfl
theorem dX11_slotsHeld_2 : decode cX11_slotsHeld 2 = .ok (.iconst 0, 1) := dec_0 oX11_slotsHeld (of3 _) rfl
theorem dX11_slotsHeld_22 : decode cX11_slotsHeld 22 = .ok (.ifCond .eq 6, 3) := dec_s2 oX11_slotsHeld (of153 _) 0 6 rfl (sg16p rfl) rfl
theorem dX11_slotsHeld_28 : decode cX11_slotsHeld 28 = .ok (.iinc 2 1, 3) := dec_ii oX11_slotsHeld (of132 _) 2 1 rfl (sg8p rfl) rfl
theorem dX11_slotsHeld_3 : decode cX11_slotsHeld 3 = .ok (.istore_n 2, 1) := dec_0 oX11_slotsHeld (of61 _) rfl
theorem dX11_slotsHeld_31 : decode cX11_slotsHeld 31 = .ok (.goto (-27), 3) := dec_s2 oX11_slotsHeld (of167 _) 255 229 rfl (sg16n (k := 27) rfl) rfl
theorem dX11_slotsHeld_34 : decode cX11_slotsHeld 34 = .ok (.iload_n 1, 1) := dec_0 oX11_slotsHeld (of27 _) rfl
theorem dX11_slotsHeld_35 : decode cX11_slotsHeld 35 = .ok (.ireturn, 1) := dec_0 oX11_slotsHeld (of172 _) rfl
theorem dX11_slotsHeld_4 : decode cX11_slotsHeld 4 = .ok (.iload_n 2, 1) := dec_0 oX11_slotsHeld (of28 _) rfl
theorem dX11_slotsHeld_5 : decode cX11_slotsHeld 5 = .ok (.aload_n 0, 1) := dec_0 oX11_slotsHeld (of42 _) rfl
theorem dX11_slotsHeld_6 : decode cX11_slotsHeld 6 = .ok (.getfield 56, 3) := dec_2 oX11_slotsHeld (of180 _) 0 56 rfl rfl
theorem dX11_slotsHeld_9 : decode cX11_slotsHeld 9 = .ok (.arraylength, 1) := dec_0 oX11_slotsHeld (of190 _) rfl
theorem dX11_turns_0 : decode cX11_turns 0 = .ok (.aload_n 0, 1) := dec_0 oX11_turns (of42 _) rfl
theorem dX11_turns_1 : decode cX11_turns 1 = .ok (.getfield 35, 3) := dec_2 oX11_turns (of180 _) 0 35 rfl rfl
theorem dX11_turns_11 : decode cX11_turns 11 = .ok (.iconst (-1), 1) := dec_0 oX11_turns (of2 _) rfl
theorem dX11_turns_12 : decode cX11_turns 12 = .ok (.ireturn, 1) := dec_0 oX11_turns (of172 _) rfl
theorem dX11_turns_4 : decode cX11_turns 4 = .ok (.iload_n 1, 1) := dec_0 oX11_turns (of27 _) rfl
theorem dX11_turns_5 : decode cX11_turns 5 = .ok (.invokevirtual 251, 3) := dec_2 oX11_turns (of182 _) 0 251 rfl rfl
theorem dX11_turns_8 : decode cX11_turns 8 = .ok (.ifCond .ne 5, 3) := dec_s2 oX11_turns (of154 _) 0 5 rfl (sg16p rfl) rfl
theorem dX11_undo_0 : decode cX11_undo 0 = .ok (.aload_n 0, 1) := dec_0 oX11_undo (of42 _) rfl
theorem dX11_undo_1 : decode cX11_undo 1 = .ok (.getfield 49, 3) := dec_2 oX11_undo (of180 _) 0 49 rfl rfl
theorem dX11_undo_10 : decode cX11_undo 10 = .ok (.iconst 0, 1) := dec_0 oX11_undo (of3 _) rfl
theorem dX11_undo_11 : decode cX11_undo 11 = .ok (.ireturn, 1) := dec_0 oX11_undo (of172 _) rfl
theorem dX11_undo_4 : decode cX11_undo 4 = .ok (.invokevirtual 164, 3) := dec_2 oX11_undo (of182 _) 0 164 rfl rfl
theorem dX11_undo_7 : decode cX11_undo 7 = .ok (.ifCond .ne 5, 3) := dec_s2 oX11_undo (of154 _) 0 5 rfl (sg16p rfl) rfl
theorem dX11_way_0 : decode cX11_way 0 = .ok (.aload_n 0, 1) := dec_0 oX11_way (of42 _) rfl
theorem dX11_way_1 : decode cX11_way 1 = .ok (.getfield 65, 3) := dec_2 oX11_way (of180 _) 0 65 rfl rfl
theorem dX11_way_12 : decode cX11_way 12 = .ok (.iconst (-1), 1) := dec_0 oX11_way (of2 _) rfl
theorem dX11_way_13 : decode cX11_way 13 = .ok (.ireturn, 1) := dec_0 oX11_way (of172 _) rfl
theorem dX11_way_4 : decode cX11_way 4 = .ok (.iload_n 1, 1) := dec_0 oX11_way (of27 _) rfl
theorem dX11_way_5 : decode cX11_way 5 = .ok (.iload_n 2, 1) := dec_0 oX11_way (of28 _) rfl
theorem dX11_way_6 : decode cX11_way 6 = .ok (.invokevirtual 212, 3) := dec_2 oX11_way (of182 _) 0 212 rfl rfl
theorem dX11_way_9 : decode cX11_way 9 = .ok (.ifCond .ne 5, 3) := dec_s2 oX11_way (of154 _) 0 5 rfl (sg16p rfl) rfl
theorem dX11_whole_0 : decode cX11_whole 0 = .ok (.iload_n 1, 1) := dec_0 oX11_whole (of27 _) rfl
theorem dX11_whole_1 : decode cX11_whole 1 = .ok (.ifCond .lt 8, 3) := dec_s2 oX11_whole (of155 _) 0 8 rfl (sg16p rfl) rfl
theorem dX11_whole_10 : decode cX11_whole 10 = .ok (.ireturn, 1) := dec_0 oX11_whole (of172 _) rfl
theorem dX11_whole_11 : decode cX11_whole 11 = .ok (.aload_n 0, 1) := dec_0 oX11_whole (of42 _) rfl
theorem dX11_whole_12 : decode cX11_whole 12 = .ok (.getfield 28, 3) := dec_2 oX11_whole (of180 _) 0 28 rfl rfl
theorem dX11_whole_15 : decode cX11_whole 15 = .ok (.invokevirtual 356, 3) := dec_2 oX11_whole (of182 _) 1 100 rfl rfl
theorem dX11_whole_18 : decode cX11_whole 18 = .ok (.istore_n 2, 1) := dec_0 oX11_whole (of61 _) rfl
theorem dX11_whole_19 : decode cX11_whole 19 = .ok (.iload_n 2, 1) := dec_0 oX11_whole (of28 _) rfl
theorem dX11_whole_20 : decode cX11_whole 20 = .ok (.ifCond .lt 7, 3) := dec_s2 oX11_whole (of155 _) 0 7 rfl (sg16p rfl) rfl
theorem dX11_whole_27 : decode cX11_whole 27 = .ok (.iload_n 2, 1) := dec_0 oX11_whole (of28 _) rfl
theorem dX11_whole_28 : decode cX11_whole 28 = .ok (.ireturn, 1) := dec_0 oX11_whole (of172 _) rfl
theorem dX11_whole_4 : decode cX11_whole 4 = .ok (.iload_n 1, 1) := dec_0 oX11_whole (of27 _) rfl
theorem dX11_whole_5 : decode cX11_whole 5 = .ok (.iconst 1, 1) := dec_0 oX11_whole (of4 _) rfl
theorem dX11_whole_6 : decode cX11_whole 6 = .ok (.if_icmp .le 5, 3) := dec_s2 oX11_whole (of164 _) 0 5 rfl (sg16p rfl) rfl
theorem dX11_whole_9 : decode cX11_whole 9 = .ok (.iconst (-1), 1) := dec_0 oX11_whole (of2 _) rfl
theorem dX11_whose_0 : decode cX11_whose 0 = .ok (.aload_n 0, 1) := dec_0 oX11_whose (of42 _) rfl
theorem dX11_whose_1 : decode cX11_whose 1 = .ok (.getfield 28, 3) := dec_2 oX11_whose (of180 _) 0 28 rfl rfl
theorem dX11_whose_24 : decode cX11_whose 24 = .ok (.iconst (-1), 1) := dec_0 oX11_whose (of2 _) rfl
theorem dX11_whose_25 : decode cX11_whose 25 = .ok (.ireturn, 1) := dec_0 oX11_whose (of172 _) rfl
theorem dX11_whose_4 : decode cX11_whose 4 = .ok (.iload_n 1, 1) := dec_0 oX11_whose (of27 _) rfl
theorem dX11_whose_5 : decode cX11_whose 5 = .ok (.iload_n 2, 1) := dec_0 oX11_whose (of28 _) rfl
theorem dX11_whose_6 : decode cX11_whose 6 = .ok (.invokevirtual 183, 3) := dec_2 oX11_whose (of182 _) 0 183 rfl rfl
theorem dX11_whose_9 : decode cX11_whose 9 = .ok (.ifCond .eq 15, 3) := dec_s2 oX11_whose (of153 _) 0 15 rfl (sg16p rfl) rfl
theorem dX11_window_0 : decode cX11_window 0 = .ok (.iload_n 2, 1) := dec_0 oX11_window (of28 _) rfl
theorem dX11_window_1 : decode cX11_window 1 = .ok (.iconst 1, 1) := dec_0 oX11_window (of4 _) rfl
theorem dX11_window_10 : decode cX11_window 10 = .ok (.iload_n 2, 1) := dec_0 oX11_window (of28 _) rfl
theorem dX11_window_11 : decode cX11_window 11 = .ok (.invokevirtual 183, 3) := dec_2 oX11_window (of182 _) 0 183 rfl rfl
theorem dX11_window_14 : decode cX11_window 14 = .ok (.ifCond .ne 6, 3) := dec_s2 oX11_window (of154 _) 0 6 rfl (sg16p rfl) rfl
theorem dX11_window_17 : decode cX11_window 17 = .ok (.ldc 186, 2) := dec_1 oX11_window (of18 _) 186 rfl rfl
theorem dX11_window_19 : decode cX11_window 19 = .ok (.ireturn, 1) := dec_0 oX11_window (of172 _) rfl
theorem dX11_window_2 : decode cX11_window 2 = .ok (.if_icmp .lt 15, 3) := dec_s2 oX11_window (of161 _) 0 15 rfl (sg16p rfl) rfl
theorem dX11_window_5 : decode cX11_window 5 = .ok (.aload_n 0, 1) := dec_0 oX11_window (of42 _) rfl
theorem dX11_window_6 : decode cX11_window 6 = .ok (.getfield 28, 3) := dec_2 oX11_window (of180 _) 0 28 rfl rfl
theorem dX11_window_9 : decode cX11_window 9 = .ok (.iload_n 1, 1) := dec_0 oX11_window (of27 _) rfl
theorem dX11_within_0 : decode cX11_within 0 = .ok (.iload_n 2, 1) := dec_0 oX11_within (of28 _) rfl
theorem dX11_within_1 : decode cX11_within 1 = .ok (.ifCond .lt 14, 3) := dec_s2 oX11_within (of155 _) 0 14 rfl (sg16p rfl) rfl
theorem dX11_within_12 : decode cX11_within 12 = .ok (.ifCond .ne 5, 3) := dec_s2 oX11_within (of154 _) 0 5 rfl (sg16p rfl) rfl
theorem dX11_within_15 : decode cX11_within 15 = .ok (.iconst (-1), 1) := dec_0 oX11_within (of2 _) rfl
theorem dX11_within_16 : decode cX11_within 16 = .ok (.ireturn, 1) := dec_0 oX11_within (of172 _) rfl
theorem dX11_within_4 : decode cX11_within 4 = .ok (.aload_n 0, 1) := dec_0 oX11_within (of42 _) rfl
theorem dX11_within_5 : decode cX11_within 5 = .ok (.getfield 35, 3) := dec_2 oX11_within (of180 _) 0 35 rfl rfl
theorem dX11_within_8 : decode cX11_within 8 = .ok (.iload_n 1, 1) := dec_0 oX11_within (of27 _) rfl
theorem dX11_within_9 : decode cX11_within 9 = .ok (.invokevirtual 251, 3) := dec_2 oX11_within (of182 _) 0 251 rfl rfl
theorem dX12_alike_0 : decode cX12_alike 0 = .ok (.aload_n 0, 1) := dec_0 oX12_alike (of42 _) rfl
theorem dX12_alike_1 : decode cX12_alike 1 = .ok (.iload_n 1, 1) := dec_0 oX12_alike (of27 _) rfl
theorem dX12_alike_16 : decode cX12_alike 16 = .ok (.iconst (-1), 1) := dec_0 oX12_alike (of2 _) rfl
theorem dX12_alike_17 : decode cX12_alike 17 = .ok (.ireturn, 1) := dec_0 oX12_alike (of172 _) rfl
theorem dX12_alike_2 : decode cX12_alike 2 = .ok (.invokevirtual 251, 3) := dec_2 oX12_alike (of182 _) 0 251 rfl rfl
theorem dX12_alike_5 : decode cX12_alike 5 = .ok (.ifCond .eq 11, 3) := dec_s2 oX12_alike (of153 _) 0 11 rfl (sg16p rfl) rfl
theorem dX12_appends_0 : decode cX12_appends 0 = .ok (.iload_n 2, 1) := dec_0 oX12_appends (of28 _) rfl
theorem dX12_appends_1 : decode cX12_appends 1 = .ok (.ifCond .ne 7, 3) := dec_s2 oX12_appends (of154 _) 0 7 rfl (sg16p rfl) rfl
theorem dX12_appends_11 : decode cX12_appends 11 = .ok (.lload_n 0, 1) := dec_0 oX12_appends (of30 _) rfl
theorem dX12_appends_12 : decode cX12_appends 12 = .ok (.lmul, 1) := dec_0 oX12_appends (of105 _) rfl
theorem dX12_appends_13 : decode cX12_appends 13 = .ok (.iload_n 2, 1) := dec_0 oX12_appends (of28 _) rfl
theorem dX12_appends_14 : decode cX12_appends 14 = .ok (.bipush 97, 2) := dec_s1 oX12_appends (of16 _) 97 rfl (sg8p rfl) rfl
theorem dX12_appends_16 : decode cX12_appends 16 = .ok (.isub, 1) := dec_0 oX12_appends (of100 _) rfl
theorem dX12_appends_17 : decode cX12_appends 17 = .ok (.iconst 1, 1) := dec_0 oX12_appends (of4 _) rfl
theorem dX12_appends_18 : decode cX12_appends 18 = .ok (.iadd, 1) := dec_0 oX12_appends (of96 _) rfl
theorem dX12_appends_19 : decode cX12_appends 19 = .ok (.i2l, 1) := dec_0 oX12_appends (of133 _) rfl
theorem dX12_appends_20 : decode cX12_appends 20 = .ok (.ladd, 1) := dec_0 oX12_appends (of97 _) rfl
theorem dX12_appends_21 : decode cX12_appends 21 = .ok (.lreturn, 1) := dec_0 oX12_appends (of173 _) rfl
theorem dX12_appends_4 : decode cX12_appends 4 = .ok (.lload_n 0, 1) := dec_0 oX12_appends (of30 _) rfl
theorem dX12_appends_5 : decode cX12_appends 5 = .ok (.goto 16, 3) := dec_s2 oX12_appends (of167 _) 0 16 rfl (sg16p rfl) rfl
theorem dX12_appends_8 : decode cX12_appends 8 = .ok (.ldc2_w 133, 3) := dec_2 oX12_appends (of20 _) 0 133 rfl rfl
theorem dX12_at_0 : decode cX12_at 0 = .ok (.aload_n 0, 1) := dec_0 oX12_at (of42 _) rfl
theorem dX12_at_1 : decode cX12_at 1 = .ok (.iload_n 1, 1) := dec_0 oX12_at (of27 _) rfl
theorem dX12_at_19 : decode cX12_at 19 = .ok (.sipush (-1000), 3) := dec_s2 oX12_at (of17 _) 252 24 rfl (sg16n (k := 1000) rfl) rfl
theorem dX12_at_2 : decode cX12_at 2 = .ok (.invokevirtual 320, 3) := dec_2 oX12_at (of182 _) 1 64 rfl rfl
theorem dX12_at_22 : decode cX12_at 22 = .ok (.ireturn, 1) := dec_0 oX12_at (of172 _) rfl
theorem dX12_at_5 : decode cX12_at 5 = .ok (.ifCond .eq 14, 3) := dec_s2 oX12_at (of153 _) 0 14 rfl (sg16p rfl) rfl
theorem dX12_back_0 : decode cX12_back 0 = .ok (.iload_n 1, 1) := dec_0 oX12_back (of27 _) rfl
theorem dX12_back_1 : decode cX12_back 1 = .ok (.ifCond .lt 11, 3) := dec_s2 oX12_back (of155 _) 0 11 rfl (sg16p rfl) rfl
theorem dX12_back_12 : decode cX12_back 12 = .ok (.iconst (-1), 1) := dec_0 oX12_back (of2 _) rfl
theorem dX12_back_13 : decode cX12_back 13 = .ok (.ireturn, 1) := dec_0 oX12_back (of172 _) rfl
theorem dX12_back_14 : decode cX12_back 14 = .ok (.aload_n 0, 1) := dec_0 oX12_back (of42 _) rfl
theorem dX12_back_15 : decode cX12_back 15 = .ok (.dup, 1) := dec_0 oX12_back (of89 _) rfl
theorem dX12_back_16 : decode cX12_back 16 = .ok (.getfield 124, 3) := dec_2 oX12_back (of180 _) 0 124 rfl rfl
theorem dX12_back_19 : decode cX12_back 19 = .ok (.iload_n 1, 1) := dec_0 oX12_back (of27 _) rfl
theorem dX12_back_20 : decode cX12_back 20 = .ok (.isub, 1) := dec_0 oX12_back (of100 _) rfl
theorem dX12_back_21 : decode cX12_back 21 = .ok (.putfield 124, 3) := dec_2 oX12_back (of181 _) 0 124 rfl rfl
theorem dX12_back_24 : decode cX12_back 24 = .ok (.aload_n 0, 1) := dec_0 oX12_back (of42 _) rfl
theorem dX12_back_25 : decode cX12_back 25 = .ok (.getfield 124, 3) := dec_2 oX12_back (of180 _) 0 124 rfl rfl
theorem dX12_back_28 : decode cX12_back 28 = .ok (.ireturn, 1) := dec_0 oX12_back (of172 _) rfl
theorem dX12_back_4 : decode cX12_back 4 = .ok (.iload_n 1, 1) := dec_0 oX12_back (of27 _) rfl
theorem dX12_back_5 : decode cX12_back 5 = .ok (.aload_n 0, 1) := dec_0 oX12_back (of42 _) rfl
theorem dX12_back_6 : decode cX12_back 6 = .ok (.getfield 124, 3) := dec_2 oX12_back (of180 _) 0 124 rfl rfl
theorem dX12_back_9 : decode cX12_back 9 = .ok (.if_icmp .le 5, 3) := dec_s2 oX12_back (of164 _) 0 5 rfl (sg16p rfl) rfl
theorem dX12_begins_0 : decode cX12_begins 0 = .ok (.iconst 0, 1) := dec_0 oX12_begins (of3 _) rfl
theorem dX12_begins_1 : decode cX12_begins 1 = .ok (.istore_n 1, 1) := dec_0 oX12_begins (of60 _) rfl
theorem dX12_begins_10 : decode cX12_begins 10 = .ok (.getfield 73, 3) := dec_2 oX12_begins (of180 _) 0 73 rfl rfl
theorem dX12_begins_102 : decode cX12_begins 102 = .ok (.aload_n 0, 1) := dec_0 oX12_begins (of42 _) rfl
theorem dX12_begins_103 : decode cX12_begins 103 = .ok (.getfield 61, 3) := dec_2 oX12_begins (of180 _) 0 61 rfl rfl
theorem dX12_begins_106 : decode cX12_begins 106 = .ok (.aload_n 0, 1) := dec_0 oX12_begins (of42 _) rfl
theorem dX12_begins_107 : decode cX12_begins 107 = .ok (.getfield 197, 3) := dec_2 oX12_begins (of180 _) 0 197 rfl rfl
theorem dX12_begins_110 : decode cX12_begins 110 = .ok (.iaload, 1) := dec_0 oX12_begins (of46 _) rfl
theorem dX12_begins_111 : decode cX12_begins 111 = .ok (.iastore, 1) := dec_0 oX12_begins (of79 _) rfl
theorem dX12_begins_112 : decode cX12_begins 112 = .ok (.aload_n 0, 1) := dec_0 oX12_begins (of42 _) rfl
theorem dX12_begins_113 : decode cX12_begins 113 = .ok (.getfield 73, 3) := dec_2 oX12_begins (of180 _) 0 73 rfl rfl
theorem dX12_begins_116 : decode cX12_begins 116 = .ok (.sipush 163, 3) := dec_s2 oX12_begins (of17 _) 0 163 rfl (sg16p rfl) rfl
theorem dX12_begins_119 : decode cX12_begins 119 = .ok (.aload_n 0, 1) := dec_0 oX12_begins (of42 _) rfl
theorem dX12_begins_120 : decode cX12_begins 120 = .ok (.getfield 64, 3) := dec_2 oX12_begins (of180 _) 0 64 rfl rfl
theorem dX12_begins_123 : decode cX12_begins 123 = .ok (.aload_n 0, 1) := dec_0 oX12_begins (of42 _) rfl
theorem dX12_begins_124 : decode cX12_begins 124 = .ok (.getfield 197, 3) := dec_2 oX12_begins (of180 _) 0 197 rfl rfl
theorem dX12_begins_127 : decode cX12_begins 127 = .ok (.iaload, 1) := dec_0 oX12_begins (of46 _) rfl
theorem dX12_begins_128 : decode cX12_begins 128 = .ok (.iastore, 1) := dec_0 oX12_begins (of79 _) rfl
theorem dX12_begins_129 : decode cX12_begins 129 = .ok (.aload_n 0, 1) := dec_0 oX12_begins (of42 _) rfl
theorem dX12_begins_13 : decode cX12_begins 13 = .ok (.iload_n 1, 1) := dec_0 oX12_begins (of27 _) rfl
theorem dX12_begins_130 : decode cX12_begins 130 = .ok (.getfield 73, 3) := dec_2 oX12_begins (of180 _) 0 73 rfl rfl
theorem dX12_begins_133 : decode cX12_begins 133 = .ok (.sipush 164, 3) := dec_s2 oX12_begins (of17 _) 0 164 rfl (sg16p rfl) rfl
theorem dX12_begins_136 : decode cX12_begins 136 = .ok (.aload_n 0, 1) := dec_0 oX12_begins (of42 _) rfl
theorem dX12_begins_137 : decode cX12_begins 137 = .ok (.getfield 67, 3) := dec_2 oX12_begins (of180 _) 0 67 rfl rfl
theorem dX12_begins_14 : decode cX12_begins 14 = .ok (.iconst 0, 1) := dec_0 oX12_begins (of3 _) rfl
theorem dX12_begins_140 : decode cX12_begins 140 = .ok (.aload_n 0, 1) := dec_0 oX12_begins (of42 _) rfl
theorem dX12_begins_141 : decode cX12_begins 141 = .ok (.getfield 197, 3) := dec_2 oX12_begins (of180 _) 0 197 rfl rfl
theorem dX12_begins_144 : decode cX12_begins 144 = .ok (.iaload, 1) := dec_0 oX12_begins (of46 _) rfl
theorem dX12_begins_145 : decode cX12_begins 145 = .ok (.iastore, 1) := dec_0 oX12_begins (of79 _) rfl
theorem dX12_begins_146 : decode cX12_begins 146 = .ok (.return_, 1) := dec_0 oX12_begins (of177 _) rfl
theorem dX12_begins_15 : decode cX12_begins 15 = .ok (.iastore, 1) := dec_0 oX12_begins (of79 _) rfl
theorem dX12_begins_16 : decode cX12_begins 16 = .ok (.iinc 1 1, 3) := dec_ii oX12_begins (of132 _) 1 1 rfl (sg8p rfl) rfl
theorem dX12_begins_19 : decode cX12_begins 19 = .ok (.goto (-17), 3) := dec_s2 oX12_begins (of167 _) 255 239 rfl (sg16n (k := 17) rfl) rfl
theorem dX12_begins_2 : decode cX12_begins 2 = .ok (.iload_n 1, 1) := dec_0 oX12_begins (of27 _) rfl
theorem dX12_begins_22 : decode cX12_begins 22 = .ok (.aload_n 0, 1) := dec_0 oX12_begins (of42 _) rfl
theorem dX12_begins_23 : decode cX12_begins 23 = .ok (.getfield 73, 3) := dec_2 oX12_begins (of180 _) 0 73 rfl rfl
theorem dX12_begins_26 : decode cX12_begins 26 = .ok (.iconst 0, 1) := dec_0 oX12_begins (of3 _) rfl
theorem dX12_begins_27 : decode cX12_begins 27 = .ok (.aload_n 0, 1) := dec_0 oX12_begins (of42 _) rfl
theorem dX12_begins_28 : decode cX12_begins 28 = .ok (.getfield 43, 3) := dec_2 oX12_begins (of180 _) 0 43 rfl rfl
theorem dX12_begins_3 : decode cX12_begins 3 = .ok (.sipush 165, 3) := dec_s2 oX12_begins (of17 _) 0 165 rfl (sg16p rfl) rfl
theorem dX12_begins_31 : decode cX12_begins 31 = .ok (.aload_n 0, 1) := dec_0 oX12_begins (of42 _) rfl
theorem dX12_begins_32 : decode cX12_begins 32 = .ok (.getfield 197, 3) := dec_2 oX12_begins (of180 _) 0 197 rfl rfl
theorem dX12_begins_35 : decode cX12_begins 35 = .ok (.iaload, 1) := dec_0 oX12_begins (of46 _) rfl
theorem dX12_begins_36 : decode cX12_begins 36 = .ok (.iastore, 1) := dec_0 oX12_begins (of79 _) rfl
theorem dX12_begins_37 : decode cX12_begins 37 = .ok (.iconst 0, 1) := dec_0 oX12_begins (of3 _) rfl
theorem dX12_begins_38 : decode cX12_begins 38 = .ok (.istore_n 1, 1) := dec_0 oX12_begins (of60 _) rfl
theorem dX12_begins_39 : decode cX12_begins 39 = .ok (.iload_n 1, 1) := dec_0 oX12_begins (of27 _) rfl
theorem dX12_begins_40 : decode cX12_begins 40 = .ok (.aload_n 0, 1) := dec_0 oX12_begins (of42 _) rfl
theorem dX12_begins_41 : decode cX12_begins 41 = .ok (.getfield 73, 3) := dec_2 oX12_begins (of180 _) 0 73 rfl rfl
theorem dX12_begins_44 : decode cX12_begins 44 = .ok (.iconst 0, 1) := dec_0 oX12_begins (of3 _) rfl
theorem dX12_begins_45 : decode cX12_begins 45 = .ok (.iaload, 1) := dec_0 oX12_begins (of46 _) rfl
theorem dX12_begins_46 : decode cX12_begins 46 = .ok (.if_icmp .ge 32, 3) := dec_s2 oX12_begins (of162 _) 0 32 rfl (sg16p rfl) rfl
theorem dX12_begins_6 : decode cX12_begins 6 = .ok (.if_icmp .ge 16, 3) := dec_s2 oX12_begins (of162 _) 0 16 rfl (sg16p rfl) rfl
theorem dX12_begins_78 : decode cX12_begins 78 = .ok (.aload_n 0, 1) := dec_0 oX12_begins (of42 _) rfl
theorem dX12_begins_79 : decode cX12_begins 79 = .ok (.getfield 73, 3) := dec_2 oX12_begins (of180 _) 0 73 rfl rfl
theorem dX12_begins_82 : decode cX12_begins 82 = .ok (.sipush 161, 3) := dec_s2 oX12_begins (of17 _) 0 161 rfl (sg16p rfl) rfl
theorem dX12_begins_85 : decode cX12_begins 85 = .ok (.aload_n 0, 1) := dec_0 oX12_begins (of42 _) rfl
theorem dX12_begins_86 : decode cX12_begins 86 = .ok (.getfield 58, 3) := dec_2 oX12_begins (of180 _) 0 58 rfl rfl
theorem dX12_begins_89 : decode cX12_begins 89 = .ok (.aload_n 0, 1) := dec_0 oX12_begins (of42 _) rfl
theorem dX12_begins_9 : decode cX12_begins 9 = .ok (.aload_n 0, 1) := dec_0 oX12_begins (of42 _) rfl
theorem dX12_begins_90 : decode cX12_begins 90 = .ok (.getfield 197, 3) := dec_2 oX12_begins (of180 _) 0 197 rfl rfl
theorem dX12_begins_93 : decode cX12_begins 93 = .ok (.iaload, 1) := dec_0 oX12_begins (of46 _) rfl
theorem dX12_begins_94 : decode cX12_begins 94 = .ok (.iastore, 1) := dec_0 oX12_begins (of79 _) rfl
theorem dX12_begins_95 : decode cX12_begins 95 = .ok (.aload_n 0, 1) := dec_0 oX12_begins (of42 _) rfl
theorem dX12_begins_96 : decode cX12_begins 96 = .ok (.getfield 73, 3) := dec_2 oX12_begins (of180 _) 0 73 rfl rfl
theorem dX12_begins_99 : decode cX12_begins 99 = .ok (.sipush 162, 3) := dec_s2 oX12_begins (of17 _) 0 162 rfl (sg16p rfl) rfl
theorem dX12_best_0 : decode cX12_best 0 = .ok (.aload_n 0, 1) := dec_0 oX12_best (of42 _) rfl
theorem dX12_best_1 : decode cX12_best 1 = .ok (.iload_n 1, 1) := dec_0 oX12_best (of27 _) rfl
theorem dX12_best_17 : decode cX12_best 17 = .ok (.iconst (-1), 1) := dec_0 oX12_best (of2 _) rfl
theorem dX12_best_18 : decode cX12_best 18 = .ok (.ireturn, 1) := dec_0 oX12_best (of172 _) rfl
theorem dX12_best_2 : decode cX12_best 2 = .ok (.invokevirtual 251, 3) := dec_2 oX12_best (of182 _) 0 251 rfl rfl
theorem dX12_best_5 : decode cX12_best 5 = .ok (.ifCond .eq 12, 3) := dec_s2 oX12_best (of153 _) 0 12 rfl (sg16p rfl) rfl
theorem dX12_bound_0 : decode cX12_bound 0 = .ok (.aload_n 0, 1) := dec_0 oX12_bound (of42 _) rfl
theorem dX12_bound_1 : decode cX12_bound 1 = .ok (.iload_n 1, 1) := dec_0 oX12_bound (of27 _) rfl
theorem dX12_bound_18 : decode cX12_bound 18 = .ok (.iconst (-1), 1) := dec_0 oX12_bound (of2 _) rfl
theorem dX12_bound_19 : decode cX12_bound 19 = .ok (.ireturn, 1) := dec_0 oX12_bound (of172 _) rfl
theorem dX12_bound_2 : decode cX12_bound 2 = .ok (.iload_n 2, 1) := dec_0 oX12_bound (of28 _) rfl
theorem dX12_bound_3 : decode cX12_bound 3 = .ok (.invokevirtual 342, 3) := dec_2 oX12_bound (of182 _) 1 86 rfl rfl
theorem dX12_bound_6 : decode cX12_bound 6 = .ok (.ifCond .eq 12, 3) := dec_s2 oX12_bound (of153 _) 0 12 rfl (sg16p rfl) rfl
theorem dX12_byteAt_0 : decode cX12_byteAt 0 = .ok (.iload_n 1, 1) := dec_0 oX12_byteAt (of27 _) rfl
theorem dX12_byteAt_1 : decode cX12_byteAt 1 = .ok (.aload_n 0, 1) := dec_0 oX12_byteAt (of42 _) rfl
theorem dX12_byteAt_2 : decode cX12_byteAt 2 = .ok (.getfield 130, 3) := dec_2 oX12_byteAt (of180 _) 0 130 rfl rfl
theorem dX12_byteAt_21 : decode cX12_byteAt 21 = .ok (.iconst 0, 1) := dec_0 oX12_byteAt (of3 _) rfl
theorem dX12_byteAt_22 : decode cX12_byteAt 22 = .ok (.ireturn, 1) := dec_0 oX12_byteAt (of172 _) rfl
theorem dX12_byteAt_5 : decode cX12_byteAt 5 = .ok (.if_icmp .ge 16, 3) := dec_s2 oX12_byteAt (of162 _) 0 16 rfl (sg16p rfl) rfl
theorem dX12_cause_0 : decode cX12_cause 0 = .ok (.aload_n 0, 1) := dec_0 oX12_cause (of42 _) rfl
theorem dX12_cause_1 : decode cX12_cause 1 = .ok (.getfield 111, 3) := dec_2 oX12_cause (of180 _) 0 111 rfl rfl
theorem dX12_cause_4 : decode cX12_cause 4 = .ok (.ireturn, 1) := dec_0 oX12_cause (of172 _) rfl
theorem dX12_comes_0 : decode cX12_comes 0 = .ok (.aload_n 0, 1) := dec_0 oX12_comes (of42 _) rfl
theorem dX12_comes_1 : decode cX12_comes 1 = .ok (.getfield 70, 3) := dec_2 oX12_comes (of180 _) 0 70 rfl rfl
theorem dX12_comes_14 : decode cX12_comes 14 = .ok (.aload_n 0, 1) := dec_0 oX12_comes (of42 _) rfl
theorem dX12_comes_15 : decode cX12_comes 15 = .ok (.invokevirtual 323, 3) := dec_2 oX12_comes (of182 _) 1 67 rfl rfl
theorem dX12_comes_18 : decode cX12_comes 18 = .ok (.aload_n 0, 1) := dec_0 oX12_comes (of42 _) rfl
theorem dX12_comes_19 : decode cX12_comes 19 = .ok (.getfield 73, 3) := dec_2 oX12_comes (of180 _) 0 73 rfl rfl
theorem dX12_comes_22 : decode cX12_comes 22 = .ok (.iconst 1, 1) := dec_0 oX12_comes (of4 _) rfl
theorem dX12_comes_23 : decode cX12_comes 23 = .ok (.aload_n 0, 1) := dec_0 oX12_comes (of42 _) rfl
theorem dX12_comes_24 : decode cX12_comes 24 = .ok (.getfield 73, 3) := dec_2 oX12_comes (of180 _) 0 73 rfl rfl
theorem dX12_comes_27 : decode cX12_comes 27 = .ok (.iconst 0, 1) := dec_0 oX12_comes (of3 _) rfl
theorem dX12_comes_28 : decode cX12_comes 28 = .ok (.iaload, 1) := dec_0 oX12_comes (of46 _) rfl
theorem dX12_comes_29 : decode cX12_comes 29 = .ok (.iadd, 1) := dec_0 oX12_comes (of96 _) rfl
theorem dX12_comes_30 : decode cX12_comes 30 = .ok (.iload_n 1, 1) := dec_0 oX12_comes (of27 _) rfl
theorem dX12_comes_31 : decode cX12_comes 31 = .ok (.iastore, 1) := dec_0 oX12_comes (of79 _) rfl
theorem dX12_comes_32 : decode cX12_comes 32 = .ok (.aload_n 0, 1) := dec_0 oX12_comes (of42 _) rfl
theorem dX12_comes_33 : decode cX12_comes 33 = .ok (.getfield 73, 3) := dec_2 oX12_comes (of180 _) 0 73 rfl rfl
theorem dX12_comes_36 : decode cX12_comes 36 = .ok (.iconst 0, 1) := dec_0 oX12_comes (of3 _) rfl
theorem dX12_comes_37 : decode cX12_comes 37 = .ok (.dup2, 1) := dec_0 oX12_comes (of92 _) rfl
theorem dX12_comes_38 : decode cX12_comes 38 = .ok (.iaload, 1) := dec_0 oX12_comes (of46 _) rfl
theorem dX12_comes_39 : decode cX12_comes 39 = .ok (.iconst 1, 1) := dec_0 oX12_comes (of4 _) rfl
theorem dX12_comes_4 : decode cX12_comes 4 = .ok (.iconst 0, 1) := dec_0 oX12_comes (of3 _) rfl
theorem dX12_comes_40 : decode cX12_comes 40 = .ok (.iadd, 1) := dec_0 oX12_comes (of96 _) rfl
theorem dX12_comes_41 : decode cX12_comes 41 = .ok (.iastore, 1) := dec_0 oX12_comes (of79 _) rfl
theorem dX12_comes_42 : decode cX12_comes 42 = .ok (.aload_n 0, 1) := dec_0 oX12_comes (of42 _) rfl
theorem dX12_comes_43 : decode cX12_comes 43 = .ok (.invokevirtual 326, 3) := dec_2 oX12_comes (of182 _) 1 70 rfl rfl
theorem dX12_comes_46 : decode cX12_comes 46 = .ok (.aload_n 0, 1) := dec_0 oX12_comes (of42 _) rfl
theorem dX12_comes_47 : decode cX12_comes 47 = .ok (.getfield 70, 3) := dec_2 oX12_comes (of180 _) 0 70 rfl rfl
theorem dX12_comes_5 : decode cX12_comes 5 = .ok (.iaload, 1) := dec_0 oX12_comes (of46 _) rfl
theorem dX12_comes_50 : decode cX12_comes 50 = .ok (.iconst 0, 1) := dec_0 oX12_comes (of3 _) rfl
theorem dX12_comes_51 : decode cX12_comes 51 = .ok (.iaload, 1) := dec_0 oX12_comes (of46 _) rfl
theorem dX12_comes_52 : decode cX12_comes 52 = .ok (.ireturn, 1) := dec_0 oX12_comes (of172 _) rfl
theorem dX12_comes_6 : decode cX12_comes 6 = .ok (.sipush 160, 3) := dec_s2 oX12_comes (of17 _) 0 160 rfl (sg16p rfl) rfl
theorem dX12_comes_9 : decode cX12_comes 9 = .ok (.if_icmp .ne 5, 3) := dec_s2 oX12_comes (of160 _) 0 5 rfl (sg16p rfl) rfl
theorem dX12_copies_0 : decode cX12_copies 0 = .ok (.iconst 0, 1) := dec_0 oX12_copies (of3 _) rfl
theorem dX12_copies_1 : decode cX12_copies 1 = .ok (.istore_n 1, 1) := dec_0 oX12_copies (of60 _) rfl
theorem dX12_copies_10 : decode cX12_copies 10 = .ok (.getfield 73, 3) := dec_2 oX12_copies (of180 _) 0 73 rfl rfl
theorem dX12_copies_13 : decode cX12_copies 13 = .ok (.iload_n 1, 1) := dec_0 oX12_copies (of27 _) rfl
theorem dX12_copies_14 : decode cX12_copies 14 = .ok (.aload_n 0, 1) := dec_0 oX12_copies (of42 _) rfl
theorem dX12_copies_15 : decode cX12_copies 15 = .ok (.getfield 70, 3) := dec_2 oX12_copies (of180 _) 0 70 rfl rfl
theorem dX12_copies_18 : decode cX12_copies 18 = .ok (.iload_n 1, 1) := dec_0 oX12_copies (of27 _) rfl
theorem dX12_copies_19 : decode cX12_copies 19 = .ok (.iaload, 1) := dec_0 oX12_copies (of46 _) rfl
theorem dX12_copies_2 : decode cX12_copies 2 = .ok (.iload_n 1, 1) := dec_0 oX12_copies (of27 _) rfl
theorem dX12_copies_20 : decode cX12_copies 20 = .ok (.iastore, 1) := dec_0 oX12_copies (of79 _) rfl
theorem dX12_copies_21 : decode cX12_copies 21 = .ok (.iinc 1 1, 3) := dec_ii oX12_copies (of132 _) 1 1 rfl (sg8p rfl) rfl
theorem dX12_copies_24 : decode cX12_copies 24 = .ok (.goto (-22), 3) := dec_s2 oX12_copies (of167 _) 255 234 rfl (sg16n (k := 22) rfl) rfl
theorem dX12_copies_27 : decode cX12_copies 27 = .ok (.return_, 1) := dec_0 oX12_copies (of177 _) rfl
theorem dX12_copies_3 : decode cX12_copies 3 = .ok (.sipush 165, 3) := dec_s2 oX12_copies (of17 _) 0 165 rfl (sg16p rfl) rfl
theorem dX12_copies_6 : decode cX12_copies 6 = .ok (.if_icmp .ge 21, 3) := dec_s2 oX12_copies (of162 _) 0 21 rfl (sg16p rfl) rfl
theorem dX12_copies_9 : decode cX12_copies 9 = .ok (.aload_n 0, 1) := dec_0 oX12_copies (of42 _) rfl
theorem dX12_count_0 : decode cX12_count 0 = .ok (.iconst 0, 1) := dec_0 oX12_count (of3 _) rfl
theorem dX12_count_1 : decode cX12_count 1 = .ok (.istore_n 2, 1) := dec_0 oX12_count (of61 _) rfl
theorem dX12_count_102 : decode cX12_count 102 = .ok (.sipush 161, 3) := dec_s2 oX12_count (of17 _) 0 161 rfl (sg16p rfl) rfl
